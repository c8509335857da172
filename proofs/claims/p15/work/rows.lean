section
-- ===== PART A: goes FIRST, ahead of the names: the tables' words, and 'selects' of the private methods out of them =====
/-- a private method of a class that the tables say can be made, by its rows of tables_1 -/
def lw_okq (q : MethodName × Nat) : Prop := (q.1.cls ≠ "java/lang/invoke/MethodHandle" ∧ q.1.cls ≠ "java/lang/invoke/VarHandle") ∧ Cond.instantiable q.1.cls q.2 ∈ tables_1 ∧ Cond.privateMethod q.1 ∈ tables_1 ∧ Cond.instanceMethod q.1 ∈ tables_1
theorem lw_p0 : lw_okq (⟨"RationDesk$Corners", "addTo", "(III)V"⟩, 10) := ⟨⟨by decide +kernel, by decide +kernel⟩, List.mem_of_getElem? (i := 72) (by decide +kernel), List.mem_of_getElem? (i := 80) (by decide +kernel), List.mem_of_getElem? (i := 81) (by decide +kernel)⟩
theorem lw_p1 : lw_okq (⟨"RationDesk", "refresh", "()V"⟩, 8) := ⟨⟨by decide +kernel, by decide +kernel⟩, List.mem_of_getElem? (i := 9) (by decide +kernel), List.mem_of_getElem? (i := 197) (by decide +kernel), List.mem_of_getElem? (i := 198) (by decide +kernel)⟩
theorem lw_p2 : lw_okq (⟨"RationDesk$Corners", "meet", "(III)V"⟩, 10) := ⟨⟨by decide +kernel, by decide +kernel⟩, List.mem_of_getElem? (i := 72) (by decide +kernel), List.mem_of_getElem? (i := 205) (by decide +kernel), List.mem_of_getElem? (i := 206) (by decide +kernel)⟩
theorem lw_p3 : lw_okq (⟨"RationDesk$Corners", "keep", "(IIII)V"⟩, 10) := ⟨⟨by decide +kernel, by decide +kernel⟩, List.mem_of_getElem? (i := 72) (by decide +kernel), List.mem_of_getElem? (i := 218) (by decide +kernel), List.mem_of_getElem? (i := 219) (by decide +kernel)⟩
theorem lw_p4 : lw_okq (⟨"RationDesk$Corners", "findSides", "(IIII)I"⟩, 10) := ⟨⟨by decide +kernel, by decide +kernel⟩, List.mem_of_getElem? (i := 72) (by decide +kernel), List.mem_of_getElem? (i := 222) (by decide +kernel), List.mem_of_getElem? (i := 223) (by decide +kernel)⟩
theorem lw_p5 : lw_okq (⟨"RationDesk$Cells", "rebuildCell", "(IILRationDesk$Atoms;LRationDesk$Corners;)V"⟩, 3) := ⟨⟨by decide +kernel, by decide +kernel⟩, List.mem_of_getElem? (i := 117) (by decide +kernel), List.mem_of_getElem? (i := 236) (by decide +kernel), List.mem_of_getElem? (i := 237) (by decide +kernel)⟩
theorem lw_p6 : lw_okq (⟨"RationDesk$Atoms", "contradict", "(IIII)Z"⟩, 8) := ⟨⟨by decide +kernel, by decide +kernel⟩, List.mem_of_getElem? (i := 17) (by decide +kernel), List.mem_of_getElem? (i := 275) (by decide +kernel), List.mem_of_getElem? (i := 276) (by decide +kernel)⟩
theorem lw_p7 : lw_okq (⟨"RationDesk", "isWorld", "(I)Z"⟩, 8) := ⟨⟨by decide +kernel, by decide +kernel⟩, List.mem_of_getElem? (i := 9) (by decide +kernel), List.mem_of_getElem? (i := 287) (by decide +kernel), List.mem_of_getElem? (i := 288) (by decide +kernel)⟩
theorem lw_p8 : lw_okq (⟨"RationDesk$ClauseStack", "isSatisfiedBy", "(II)Z"⟩, 4) := ⟨⟨by decide +kernel, by decide +kernel⟩, List.mem_of_getElem? (i := 53) (by decide +kernel), List.mem_of_getElem? (i := 307) (by decide +kernel), List.mem_of_getElem? (i := 308) (by decide +kernel)⟩
theorem lw_p9 : lw_okq (⟨"RationDesk$Atoms", "setPlane", "(IIIII)V"⟩, 8) := ⟨⟨by decide +kernel, by decide +kernel⟩, List.mem_of_getElem? (i := 17) (by decide +kernel), List.mem_of_getElem? (i := 332) (by decide +kernel), List.mem_of_getElem? (i := 333) (by decide +kernel)⟩
theorem lw_p10 : lw_okq (⟨"RationDesk", "isDefined", "(I)Z"⟩, 8) := ⟨⟨by decide +kernel, by decide +kernel⟩, List.mem_of_getElem? (i := 9) (by decide +kernel), List.mem_of_getElem? (i := 361) (by decide +kernel), List.mem_of_getElem? (i := 362) (by decide +kernel)⟩
theorem lw_p11 : lw_okq (⟨"RationDesk", "isDefinedOrAbsent", "(I)Z"⟩, 8) := ⟨⟨by decide +kernel, by decide +kernel⟩, List.mem_of_getElem? (i := 9) (by decide +kernel), List.mem_of_getElem? (i := 365) (by decide +kernel), List.mem_of_getElem? (i := 366) (by decide +kernel)⟩
theorem lw_p12 : lw_okq (⟨"RationDesk", "climb", "(III)V"⟩, 8) := ⟨⟨by decide +kernel, by decide +kernel⟩, List.mem_of_getElem? (i := 9) (by decide +kernel), List.mem_of_getElem? (i := 428) (by decide +kernel), List.mem_of_getElem? (i := 429) (by decide +kernel)⟩
theorem lw_p13 : lw_okq (⟨"RationDesk", "climbWorld", "(I)V"⟩, 8) := ⟨⟨by decide +kernel, by decide +kernel⟩, List.mem_of_getElem? (i := 9) (by decide +kernel), List.mem_of_getElem? (i := 436) (by decide +kernel), List.mem_of_getElem? (i := 437) (by decide +kernel)⟩
theorem lw_p14 : lw_okq (⟨"RationDesk$Peak", "climbCell", "(LRationDesk$Corners;I)V"⟩, 9) := ⟨⟨by decide +kernel, by decide +kernel⟩, List.mem_of_getElem? (i := 134) (by decide +kernel), List.mem_of_getElem? (i := 454) (by decide +kernel), List.mem_of_getElem? (i := 455) (by decide +kernel)⟩
theorem lw_p15 : lw_okq (⟨"RationDesk$Peak", "climbCorner", "(JJI)V"⟩, 9) := ⟨⟨by decide +kernel, by decide +kernel⟩, List.mem_of_getElem? (i := 134) (by decide +kernel), List.mem_of_getElem? (i := 474) (by decide +kernel), List.mem_of_getElem? (i := 475) (by decide +kernel)⟩
def lw_privs_1 : List (MethodName × Nat) := [(⟨"RationDesk$Corners", "addTo", "(III)V"⟩, 10), (⟨"RationDesk", "refresh", "()V"⟩, 8), (⟨"RationDesk$Corners", "meet", "(III)V"⟩, 10), (⟨"RationDesk$Corners", "keep", "(IIII)V"⟩, 10), (⟨"RationDesk$Corners", "findSides", "(IIII)I"⟩, 10), (⟨"RationDesk$Cells", "rebuildCell", "(IILRationDesk$Atoms;LRationDesk$Corners;)V"⟩, 3), (⟨"RationDesk$Atoms", "contradict", "(IIII)Z"⟩, 8), (⟨"RationDesk", "isWorld", "(I)Z"⟩, 8), (⟨"RationDesk$ClauseStack", "isSatisfiedBy", "(II)Z"⟩, 4), (⟨"RationDesk$Atoms", "setPlane", "(IIIII)V"⟩, 8), (⟨"RationDesk", "isDefined", "(I)Z"⟩, 8), (⟨"RationDesk", "isDefinedOrAbsent", "(I)Z"⟩, 8), (⟨"RationDesk", "climb", "(III)V"⟩, 8), (⟨"RationDesk", "climbWorld", "(I)V"⟩, 8), (⟨"RationDesk$Peak", "climbCell", "(LRationDesk$Corners;I)V"⟩, 9), (⟨"RationDesk$Peak", "climbCorner", "(JJI)V"⟩, 9)]
theorem lw_r1 : ∀ q ∈ lw_privs_1, lw_okq q := List.forall_mem_cons.mpr ⟨lw_p0, List.forall_mem_cons.mpr ⟨lw_p1, List.forall_mem_cons.mpr ⟨lw_p2, List.forall_mem_cons.mpr ⟨lw_p3, List.forall_mem_cons.mpr ⟨lw_p4, List.forall_mem_cons.mpr ⟨lw_p5, List.forall_mem_cons.mpr ⟨lw_p6, List.forall_mem_cons.mpr ⟨lw_p7, List.forall_mem_cons.mpr ⟨lw_p8, List.forall_mem_cons.mpr ⟨lw_p9, List.forall_mem_cons.mpr ⟨lw_p10, List.forall_mem_cons.mpr ⟨lw_p11, List.forall_mem_cons.mpr ⟨lw_p12, List.forall_mem_cons.mpr ⟨lw_p13, List.forall_mem_cons.mpr ⟨lw_p14, List.forall_mem_cons.mpr ⟨lw_p15, fun _ h => absurd h List.not_mem_nil⟩⟩⟩⟩⟩⟩⟩⟩⟩⟩⟩⟩⟩⟩⟩⟩
def lw_privs : List (MethodName × Nat) := lw_privs_1
def lw_tbl : List Cond := k2_sels lw_privs ++ tables_1
theorem lw_privs_ok : ∀ q ∈ lw_privs, lw_okq q := lw_r1
-- ===== names, fields: the rows that the claim's own NAMES text prints =====
def RX0 : String := "RationDesk$Atoms"
def TX0 : u_T := fun k => match k with
  | 0 => ("RationDesk$Atoms", "kind", "[I", true)
  | 1 => ("RationDesk$Atoms", "a", "[I", true)
  | 2 => ("RationDesk$Atoms", "b", "[I", true)
  | 3 => ("RationDesk$Atoms", "c", "[I", true)
  | 4 => ("RationDesk$Atoms", "d", "[I", true)
  | 5 => ("RationDesk$Atoms", "argument", "[I", true)
  | 6 => ("RationDesk$Atoms", "value", "[I", true)
  | _ => ("RationDesk$Atoms", "defined", "I", false)
def tyX0 : Nat → FieldType := fun k => match k with
  | 0 => .array .int
  | 1 => .array .int
  | 2 => .array .int
  | 3 => .array .int
  | 4 => .array .int
  | 5 => .array .int
  | 6 => .array .int
  | _ => .int
theorem nmX0 : ∀ a, a < 8 → ∀ b, b < 8 → a ≠ b → (TX0 a).2.1 ≠ (TX0 b).2.1 := by decide +kernel
theorem tyX0_ok : ∀ k, k < 8 → parseFieldDescriptor (TX0 k).2.2.1 = some (tyX0 k) := by decide +kernel
def RX1 : String := "RationDesk$Cells"
def TX1 : u_T := fun k => match k with
  | 0 => ("RationDesk$Cells", "open", "[Z", true)
  | 1 => ("RationDesk$Cells", "needed", "[I", true)
  | _ => ("RationDesk$Cells", "sought", "[I", true)
def tyX1 : Nat → FieldType := fun k => match k with
  | 0 => .array .boolean
  | 1 => .array .int
  | _ => .array .int
theorem nmX1 : ∀ a, a < 3 → ∀ b, b < 3 → a ≠ b → (TX1 a).2.1 ≠ (TX1 b).2.1 := by decide +kernel
theorem tyX1_ok : ∀ k, k < 3 → parseFieldDescriptor (TX1 k).2.2.1 = some (tyX1 k) := by decide +kernel
def RX2 : String := "RationDesk$ClauseStack"
def TX2 : u_T := fun k => match k with
  | 0 => ("RationDesk$ClauseStack", "literals", "[I", true)
  | 1 => ("RationDesk$ClauseStack", "marks", "[I", true)
  | 2 => ("RationDesk$ClauseStack", "size", "I", false)
  | _ => ("RationDesk$ClauseStack", "level", "I", false)
def tyX2 : Nat → FieldType := fun k => match k with
  | 0 => .array .int
  | 1 => .array .int
  | 2 => .int
  | _ => .int
theorem nmX2 : ∀ a, a < 4 → ∀ b, b < 4 → a ≠ b → (TX2 a).2.1 ≠ (TX2 b).2.1 := by decide +kernel
theorem tyX2_ok : ∀ k, k < 4 → parseFieldDescriptor (TX2 k).2.2.1 = some (tyX2 k) := by decide +kernel
def RX3 : String := "RationDesk$Corners"
def TX3 : u_T := fun k => match k with
  | 0 => ("RationDesk$Corners", "a", "[I", true)
  | 1 => ("RationDesk$Corners", "b", "[I", true)
  | 2 => ("RationDesk$Corners", "c", "[I", true)
  | 3 => ("RationDesk$Corners", "d", "[I", true)
  | 4 => ("RationDesk$Corners", "x", "[I", true)
  | 5 => ("RationDesk$Corners", "y", "[I", true)
  | 6 => ("RationDesk$Corners", "z", "[I", true)
  | 7 => ("RationDesk$Corners", "divisor", "[I", true)
  | 8 => ("RationDesk$Corners", "sides", "[I", true)
  | _ => ("RationDesk$Corners", "count", "I", false)
def tyX3 : Nat → FieldType := fun k => match k with
  | 0 => .array .int
  | 1 => .array .int
  | 2 => .array .int
  | 3 => .array .int
  | 4 => .array .int
  | 5 => .array .int
  | 6 => .array .int
  | 7 => .array .int
  | 8 => .array .int
  | _ => .int
theorem nmX3 : ∀ a, a < 10 → ∀ b, b < 10 → a ≠ b → (TX3 a).2.1 ≠ (TX3 b).2.1 := by decide +kernel
theorem tyX3_ok : ∀ k, k < 10 → parseFieldDescriptor (TX3 k).2.2.1 = some (tyX3 k) := by decide +kernel
def RX4 : String := "RationDesk$Peak"
def TX4 : u_T := fun k => match k with
  | 0 => ("RationDesk$Peak", "a", "I", false)
  | 1 => ("RationDesk$Peak", "b", "I", false)
  | 2 => ("RationDesk$Peak", "c", "I", false)
  | 3 => ("RationDesk$Peak", "over", "J", false)
  | 4 => ("RationDesk$Peak", "under", "J", false)
  | 5 => ("RationDesk$Peak", "reached", "Z", false)
  | 6 => ("RationDesk$Peak", "cellOver", "J", false)
  | 7 => ("RationDesk$Peak", "cellUnder", "J", false)
  | _ => ("RationDesk$Peak", "cellSides", "I", false)
def tyX4 : Nat → FieldType := fun k => match k with
  | 0 => .int
  | 1 => .int
  | 2 => .int
  | 3 => .long
  | 4 => .long
  | 5 => .boolean
  | 6 => .long
  | 7 => .long
  | _ => .int
theorem nmX4 : ∀ a, a < 9 → ∀ b, b < 9 → a ≠ b → (TX4 a).2.1 ≠ (TX4 b).2.1 := by decide +kernel
theorem tyX4_ok : ∀ k, k < 9 → parseFieldDescriptor (TX4 k).2.2.1 = some (tyX4 k) := by decide +kernel
def RX5 : String := "RationDesk"
def TX5 : u_T := fun k => match k with
  | 0 => ("RationDesk", "atoms", "LRationDesk$Atoms;", true)
  | 1 => ("RationDesk", "clauses", "LRationDesk$ClauseStack;", true)
  | 2 => ("RationDesk", "corners", "LRationDesk$Corners;", true)
  | 3 => ("RationDesk", "cells", "LRationDesk$Cells;", true)
  | 4 => ("RationDesk", "peak", "LRationDesk$Peak;", true)
  | 5 => ("RationDesk", "stale", "Z", false)
  | 6 => ("RationDesk", "topNumerator", "J", false)
  | _ => ("RationDesk", "topDenominator", "J", false)
def tyX5 : Nat → FieldType := fun k => match k with
  | 0 => .object "RationDesk$Atoms"
  | 1 => .object "RationDesk$ClauseStack"
  | 2 => .object "RationDesk$Corners"
  | 3 => .object "RationDesk$Cells"
  | 4 => .object "RationDesk$Peak"
  | 5 => .boolean
  | 6 => .long
  | _ => .long
theorem nmX5 : ∀ a, a < 8 → ∀ b, b < 8 → a ≠ b → (TX5 a).2.1 ≠ (TX5 b).2.1 := by decide +kernel
theorem tyX5_ok : ∀ k, k < 8 → parseFieldDescriptor (TX5 k).2.2.1 = some (tyX5 k) := by decide +kernel
abbrev vwCl : List vw_C := [(RX0, TX0, 8), (RX1, TX1, 3), (RX2, TX2, 4), (RX3, TX3, 10), (RX4, TX4, 9), (RX5, TX5, 8)]
abbrev MT : Type := MethodName × ByteArray × Nat × Option FieldType × Nat × Nat × Nat
def RN : Nat → String := fun c => match c with
  | 0 => "RationDesk$Atoms"
  | 1 => "RationDesk$Cells"
  | 2 => "RationDesk$ClauseStack"
  | 3 => "RationDesk$Corners"
  | 4 => "RationDesk$Peak"
  | 5 => "RationDesk"
  | _ => "RationDeskLaw"
def TT : Nat → u_T := fun c => match c with
  | 0 => TX0
  | 1 => TX1
  | 2 => TX2
  | 3 => TX3
  | 4 => TX4
  | _ => TX5
def nf : Nat → Nat := fun c => match c with
  | 0 => 8
  | 1 => 3
  | 2 => 4
  | 3 => 10
  | 4 => 9
  | _ => 8
/-- the kind of a field: 0 int, 1 long, 2 reference, 3 boolean -/
def fty : Nat → Nat → Nat := fun c k => (match c with
  | 0 => [2, 2, 2, 2, 2, 2, 2, 0]
  | 1 => [2, 2, 2]
  | 2 => [2, 2, 0, 0]
  | 3 => [2, 2, 2, 2, 2, 2, 2, 2, 2, 0]
  | 4 => [0, 0, 0, 1, 1, 3, 1, 1, 0]
  | _ => [2, 2, 2, 2, 2, 3, 1, 1]
  ).getD k 0
/-- what the program makes, in the order in which it makes it: an object of a class, or a row of booleans or ints -/
def SHL : List (Nat ⊕ (Bool × Nat)) := [.inl 5, .inl 0, .inr (false, 5), .inr (false, 5), .inr (false, 5), .inr (false, 5), .inr (false, 5), .inr (false, 5), .inr (false, 5), .inl 2, .inr (false, 24), .inr (false, 4), .inl 3, .inr (false, 14), .inr (false, 14), .inr (false, 14), .inr (false, 14), .inr (false, 364), .inr (false, 364), .inr (false, 364), .inr (false, 364), .inr (false, 364), .inl 1, .inr (true, 160), .inr (false, 160), .inr (false, 160), .inl 4]
abbrev mX0_init : MT := (⟨"RationDesk$Atoms", "<init>", "()V"⟩, prog_2_method_1_code, 1, none, 1, 16, 0)
abbrev mX0_defined : MT := (⟨"RationDesk$Atoms", "defined", "()I"⟩, prog_2_method_2_code, 1, (some .int), 0, 0, 0)
abbrev mX5_isAtom : MT := (⟨"RationDesk", "isAtom", "(I)Z"⟩, prog_1_method_16_code, 1, (some .boolean), 0, 0, 5)
abbrev mX0_setPlane : MT := (⟨"RationDesk$Atoms", "setPlane", "(IIIII)V"⟩, prog_2_method_5_code, 6, none, 1, 20, 0)
abbrev mX0_defineLinear : MT := (⟨"RationDesk$Atoms", "defineLinear", "(IIIIIZ)V"⟩, prog_2_method_3_code, 7, none, 2, 45, 0)
abbrev mX0_defineFact : MT := (⟨"RationDesk$Atoms", "defineFact", "(III)V"⟩, prog_2_method_4_code, 4, none, 2, 45, 0)
abbrev mX5_onPlane : MT := (⟨"RationDesk", "onPlane", "(I)I"⟩, prog_1_method_22_code, 1, (some .int), 0, 0, 5)
abbrev mX5_side : MT := (⟨"RationDesk", "side", "(II)I"⟩, prog_1_method_21_code, 2, (some .int), 0, 0, 5)
abbrev mX0_sidesNeeded : MT := (⟨"RationDesk$Atoms", "sidesNeeded", "(I)I"⟩, prog_2_method_6_code, 5, (some .int), 1, 21, 0)
abbrev mX0_sidesSought : MT := (⟨"RationDesk$Atoms", "sidesSought", "(I)I"⟩, prog_2_method_7_code, 5, (some .int), 1, 21, 0)
abbrev mX5_areEqual : MT := (⟨"RationDesk", "areEqual", "(III)Z"⟩, prog_1_method_23_code, 5, (some .boolean), 0, 0, 5)
abbrev mX0_contradict : MT := (⟨"RationDesk$Atoms", "contradict", "(IIII)Z"⟩, prog_2_method_9_code, 7, (some .boolean), 1, 24, 0)
abbrev mX0_hasFunction : MT := (⟨"RationDesk$Atoms", "hasFunction", "(II)Z"⟩, prog_2_method_8_code, 5, (some .boolean), 2, 50, 0)
abbrev mX1_init : MT := (⟨"RationDesk$Cells", "<init>", "()V"⟩, prog_3_method_1_code, 1, none, 1, 16, 1)
abbrev mX1_cellOf : MT := (⟨"RationDesk$Cells", "cellOf", "(II)I"⟩, prog_3_method_4_code, 2, (some .int), 0, 0, 1)
abbrev mX1_isCell : MT := (⟨"RationDesk$Cells", "isCell", "(I)Z"⟩, prog_3_method_5_code, 1, (some .boolean), 0, 0, 1)
abbrev mX1_pairsNeeded : MT := (⟨"RationDesk$Cells", "pairsNeeded", "(I)I"⟩, prog_3_method_10_code, 3, (some .int), 1, 24, 1)
abbrev mX1_pairsSought : MT := (⟨"RationDesk$Cells", "pairsSought", "(I)I"⟩, prog_3_method_11_code, 3, (some .int), 1, 24, 1)
abbrev mX3_havePoint : MT := (⟨"RationDesk$Corners", "havePoint", "(II)Z"⟩, prog_5_method_7_code, 5, (some .boolean), 0, 0, 3)
abbrev mX1_rebuildCell : MT := (⟨"RationDesk$Cells", "rebuildCell", "(IILRationDesk$Atoms;LRationDesk$Corners;)V"⟩, prog_3_method_3_code, 6, none, 3, 74, 1)
abbrev mX1_rebuild : MT := (⟨"RationDesk$Cells", "rebuild", "(LRationDesk$Atoms;LRationDesk$Corners;)V"⟩, prog_3_method_2_code, 5, none, 4, 99, 1)
abbrev mX1_isOpen : MT := (⟨"RationDesk$Cells", "isOpen", "(I)Z"⟩, prog_3_method_6_code, 2, (some .boolean), 1, 20, 1)
abbrev mX1_neededIn : MT := (⟨"RationDesk$Cells", "neededIn", "(I)I"⟩, prog_3_method_7_code, 2, (some .int), 1, 20, 1)
abbrev mX1_soughtIn : MT := (⟨"RationDesk$Cells", "soughtIn", "(I)I"⟩, prog_3_method_8_code, 2, (some .int), 1, 20, 1)
abbrev mX1_isOpenSomewhere : MT := (⟨"RationDesk$Cells", "isOpenSomewhere", "(I)Z"⟩, prog_3_method_9_code, 3, (some .boolean), 2, 41, 1)
abbrev mX2_init : MT := (⟨"RationDesk$ClauseStack", "<init>", "()V"⟩, prog_4_method_1_code, 1, none, 1, 16, 2)
abbrev mX2_size : MT := (⟨"RationDesk$ClauseStack", "size", "()I"⟩, prog_4_method_2_code, 1, (some .int), 0, 0, 2)
abbrev mX2_level : MT := (⟨"RationDesk$ClauseStack", "level", "()I"⟩, prog_4_method_3_code, 1, (some .int), 0, 0, 2)
abbrev mX2_add : MT := (⟨"RationDesk$ClauseStack", "add", "(III)Z"⟩, prog_4_method_4_code, 5, (some .boolean), 0, 0, 2)
abbrev mX2_raise : MT := (⟨"RationDesk$ClauseStack", "raise", "()Z"⟩, prog_4_method_5_code, 1, (some .boolean), 0, 0, 2)
abbrev mX2_lower : MT := (⟨"RationDesk$ClauseStack", "lower", "()Z"⟩, prog_4_method_6_code, 1, (some .boolean), 0, 0, 2)
abbrev mX5_holdsIn : MT := (⟨"RationDesk", "holdsIn", "(II)Z"⟩, prog_1_method_20_code, 3, (some .boolean), 0, 0, 5)
abbrev mX2_isSatisfiedBy : MT := (⟨"RationDesk$ClauseStack", "isSatisfiedBy", "(II)Z"⟩, prog_4_method_8_code, 4, (some .boolean), 1, 22, 2)
abbrev mX2_areSatisfiedBy : MT := (⟨"RationDesk$ClauseStack", "areSatisfiedBy", "(I)Z"⟩, prog_4_method_7_code, 3, (some .boolean), 2, 45, 2)
abbrev mX3_addTo : MT := (⟨"RationDesk$Corners", "addTo", "(III)V"⟩, prog_5_method_2_code, 4, none, 0, 0, 3)
abbrev mX3_init : MT := (⟨"RationDesk$Corners", "<init>", "()V"⟩, prog_5_method_1_code, 2, none, 1, 23, 3)
abbrev mX3_count : MT := (⟨"RationDesk$Corners", "count", "()I"⟩, prog_5_method_3_code, 1, (some .int), 0, 0, 3)
abbrev mX3_sidesOf : MT := (⟨"RationDesk$Corners", "sidesOf", "(I)I"⟩, prog_5_method_4_code, 2, (some .int), 0, 0, 3)
abbrev mX3_divisorOf : MT := (⟨"RationDesk$Corners", "divisorOf", "(I)I"⟩, prog_5_method_5_code, 2, (some .int), 0, 0, 3)
abbrev mX3_sumAt : MT := (⟨"RationDesk$Corners", "sumAt", "(IIII)J"⟩, prog_5_method_6_code, 5, (some .long), 0, 0, 3)
abbrev mX3_isPlane : MT := (⟨"RationDesk$Corners", "isPlane", "(I)Z"⟩, prog_5_method_11_code, 1, (some .boolean), 0, 0, 3)
abbrev mX3_determinant : MT := (⟨"RationDesk$Corners", "determinant", "([I[I[IIII)I"⟩, prog_5_method_10_code, 6, (some .int), 1, 20, 3)
abbrev mX3_findSides : MT := (⟨"RationDesk$Corners", "findSides", "(IIII)I"⟩, prog_5_method_13_code, 8, (some .int), 1, 21, 3)
abbrev mX3_keep : MT := (⟨"RationDesk$Corners", "keep", "(IIII)V"⟩, prog_5_method_12_code, 5, none, 2, 48, 3)
abbrev mX5_isWithin : MT := (⟨"RationDesk", "isWithin", "(II)Z"⟩, prog_1_method_13_code, 2, (some .boolean), 0, 0, 5)
abbrev mX3_meet : MT := (⟨"RationDesk$Corners", "meet", "(III)V"⟩, prog_5_method_9_code, 11, none, 3, 72, 3)
abbrev mX3_rebuild : MT := (⟨"RationDesk$Corners", "rebuild", "(LRationDesk$Atoms;)V"⟩, prog_5_method_8_code, 5, none, 4, 102, 3)
abbrev mX4_init : MT := (⟨"RationDesk$Peak", "<init>", "()V"⟩, prog_6_method_1_code, 1, none, 1, 16, 4)
abbrev mX4_start : MT := (⟨"RationDesk$Peak", "start", "(III)V"⟩, prog_6_method_2_code, 4, none, 0, 0, 4)
abbrev mX4_isFound : MT := (⟨"RationDesk$Peak", "isFound", "()Z"⟩, prog_6_method_3_code, 1, (some .boolean), 0, 0, 4)
abbrev mX4_isReached : MT := (⟨"RationDesk$Peak", "isReached", "()Z"⟩, prog_6_method_4_code, 1, (some .boolean), 0, 0, 4)
abbrev mX4_isAtMost : MT := (⟨"RationDesk$Peak", "isAtMost", "(I)Z"⟩, prog_6_method_5_code, 2, (some .boolean), 0, 0, 4)
abbrev mX4_compare : MT := (⟨"RationDesk$Peak", "compare", "(JJJJ)J"⟩, prog_6_method_9_code, 8, (some .long), 0, 0, 4)
abbrev mX4_climbCorner : MT := (⟨"RationDesk$Peak", "climbCorner", "(JJI)V"⟩, prog_6_method_8_code, 8, none, 1, 27, 4)
abbrev mX4_climbCell : MT := (⟨"RationDesk$Peak", "climbCell", "(LRationDesk$Corners;I)V"⟩, prog_6_method_7_code, 5, none, 2, 54, 4)
abbrev mX4_include : MT := (⟨"RationDesk$Peak", "include", "(LRationDesk$Corners;II)V"⟩, prog_6_method_6_code, 7, none, 3, 78, 4)
abbrev mX4_commonDivisor : MT := (⟨"RationDesk$Peak", "commonDivisor", "(JJ)J"⟩, prog_6_method_12_code, 11, (some .long), 1, 17, 4)
abbrev mX4_reducedOver : MT := (⟨"RationDesk$Peak", "reducedOver", "()J"⟩, prog_6_method_10_code, 3, (some .long), 2, 47, 4)
abbrev mX4_reducedUnder : MT := (⟨"RationDesk$Peak", "reducedUnder", "()J"⟩, prog_6_method_11_code, 3, (some .long), 2, 47, 4)
abbrev mX5_init : MT := (⟨"RationDesk", "<init>", "()V"⟩, prog_1_method_1_code, 1, none, 2, 44, 5)
abbrev mX5_areFactors : MT := (⟨"RationDesk", "areFactors", "(III)Z"⟩, prog_1_method_14_code, 3, (some .boolean), 1, 21, 5)
abbrev mX5_isLimit : MT := (⟨"RationDesk", "isLimit", "(I)Z"⟩, prog_1_method_15_code, 1, (some .boolean), 1, 21, 5)
abbrev mX5_linear : MT := (⟨"RationDesk", "linear", "(IIIIIZ)Z"⟩, prog_1_method_2_code, 7, (some .boolean), 3, 71, 5)
abbrev mX5_isNumber : MT := (⟨"RationDesk", "isNumber", "(I)Z"⟩, prog_1_method_17_code, 1, (some .boolean), 0, 0, 5)
abbrev mX5_fact : MT := (⟨"RationDesk", "fact", "(III)Z"⟩, prog_1_method_3_code, 4, (some .boolean), 3, 68, 5)
abbrev mX5_isDefined : MT := (⟨"RationDesk", "isDefined", "(I)Z"⟩, prog_1_method_18_code, 2, (some .boolean), 1, 20, 5)
abbrev mX5_isDefinedOrAbsent : MT := (⟨"RationDesk", "isDefinedOrAbsent", "(I)Z"⟩, prog_1_method_19_code, 2, (some .boolean), 2, 41, 5)
abbrev mX5_clause : MT := (⟨"RationDesk", "clause", "(III)I"⟩, prog_1_method_4_code, 5, (some .int), 3, 62, 5)
abbrev mX5_push : MT := (⟨"RationDesk", "push", "()I"⟩, prog_1_method_5_code, 1, (some .int), 1, 20, 5)
abbrev mX5_pop : MT := (⟨"RationDesk", "pop", "()I"⟩, prog_1_method_6_code, 1, (some .int), 1, 20, 5)
abbrev mX5_isWorld : MT := (⟨"RationDesk", "isWorld", "(I)Z"⟩, prog_1_method_25_code, 2, (some .boolean), 3, 67, 5)
abbrev mX5_refresh : MT := (⟨"RationDesk", "refresh", "()V"⟩, prog_1_method_24_code, 1, none, 5, 126, 5)
abbrev mX5_worlds : MT := (⟨"RationDesk", "worlds", "()I"⟩, prog_1_method_7_code, 3, (some .int), 6, 146, 5)
abbrev mX5_world : MT := (⟨"RationDesk", "world", "(I)Z"⟩, prog_1_method_8_code, 2, (some .boolean), 6, 146, 5)
abbrev mX5_holds : MT := (⟨"RationDesk", "holds", "(I)I"⟩, prog_1_method_9_code, 6, (some .int), 6, 146, 5)
abbrev mX5_climbWorld : MT := (⟨"RationDesk", "climbWorld", "(I)V"⟩, prog_1_method_27_code, 4, none, 4, 104, 5)
abbrev mX5_climb : MT := (⟨"RationDesk", "climb", "(III)V"⟩, prog_1_method_26_code, 5, none, 5, 127, 5)
abbrev mX5_most : MT := (⟨"RationDesk", "most", "(III)I"⟩, prog_1_method_10_code, 4, (some .int), 6, 151, 5)
abbrev mX5_top : MT := (⟨"RationDesk", "top", "(I)J"⟩, prog_1_method_11_code, 2, (some .long), 0, 0, 5)
abbrev mX5_bounded : MT := (⟨"RationDesk", "bounded", "(IIII)Z"⟩, prog_1_method_12_code, 5, (some .boolean), 6, 151, 5)
abbrev mX6_cell : MT := (⟨"RationDeskLaw", "cell", "([II)I"⟩, method_2_code, 2, (some .int), 0, 0, 6)
abbrev mX6_small : MT := (⟨"RationDeskLaw", "small", "(I)I"⟩, method_3_code, 1, (some .int), 0, 0, 6)
abbrev mX6_atoms : MT := (⟨"RationDeskLaw", "atoms", "(LRationDesk;[I)I"⟩, method_4_code, 6, (some .int), 4, 97, 6)
abbrev mX6_clauses : MT := (⟨"RationDeskLaw", "clauses", "(LRationDesk;[II)V"⟩, method_5_code, 10, none, 4, 86, 6)
abbrev mX6_set : MT := (⟨"RationDeskLaw", "set", "(LRationDesk;I)I"⟩, method_6_code, 4, (some .int), 7, 167, 6)
abbrev mX6_bits : MT := (⟨"RationDeskLaw", "bits", "(I)I"⟩, method_7_code, 3, (some .int), 0, 0, 6)
abbrev mX6_with : MT := (⟨"RationDeskLaw", "with", "(I)I"⟩, method_8_code, 3, (some .int), 0, 0, 6)
abbrev mX6_satisfied : MT := (⟨"RationDeskLaw", "satisfied", "(I[II)Z"⟩, method_9_code, 8, (some .boolean), 1, 22, 6)
abbrev mX6_halves : MT := (⟨"RationDeskLaw", "halves", "(LRationDesk;II)Z"⟩, method_10_code, 9, (some .boolean), 8, 190, 6)
abbrev mX6_compare : MT := (⟨"RationDeskLaw", "compare", "(JJJJ)I"⟩, method_11_code, 12, (some .int), 0, 0, 6)
abbrev mX6_tops : MT := (⟨"RationDeskLaw", "tops", "(LRationDesk;IIIII)Z"⟩, method_12_code, 17, (some .boolean), 7, 175, 6)
abbrev mX6_fixed : MT := (⟨"RationDeskLaw", "fixed", "(III)Z"⟩, method_13_code, 11, (some .boolean), 7, 175, 6)
abbrev mX6_law : MT := (⟨"RationDeskLaw", "law", "([I)Z"⟩, code, 6, (some .boolean), 9, 218, 6)
/-- fields by the class and the entry of its pool: class, place, where the word stands, a nest mate's -/
def FL : List (Nat × Nat × Nat × Nat × Nat × Bool) := [(0, 9, 0, 0, 38, false), (0, 15, 0, 1, 39, false), (0, 18, 0, 2, 41, false), (0, 21, 0, 3, 43, false), (0, 24, 0, 4, 45, false), (0, 27, 0, 5, 47, false), (0, 30, 0, 6, 48, false), (0, 33, 0, 7, 49, false), (1, 9, 1, 0, 138, false), (1, 15, 1, 1, 139, false), (1, 19, 1, 2, 140, false), (2, 9, 2, 0, 74, false), (2, 15, 2, 1, 75, false), (2, 18, 2, 2, 76, false), (2, 22, 2, 3, 77, false), (3, 11, 3, 0, 101, false), (3, 15, 3, 1, 102, false), (3, 18, 3, 2, 103, false), (3, 21, 3, 3, 104, false), (3, 24, 3, 4, 105, false), (3, 27, 3, 5, 106, false), (3, 30, 3, 6, 107, false), (3, 33, 3, 7, 108, false), (3, 36, 3, 8, 109, false), (3, 39, 3, 9, 110, false), (3, 53, 0, 1, 40, true), (3, 56, 0, 2, 42, true), (3, 57, 0, 3, 44, true), (3, 58, 0, 4, 46, true), (4, 7, 4, 0, 155, false), (4, 13, 4, 1, 156, false), (4, 16, 4, 2, 157, false), (4, 19, 4, 3, 158, false), (4, 23, 4, 4, 159, false), (4, 26, 4, 5, 160, false), (4, 30, 4, 6, 161, false), (4, 33, 4, 7, 162, false), (4, 36, 4, 8, 163, false), (5, 12, 5, 0, 183, false), (5, 19, 5, 1, 184, false), (5, 26, 5, 2, 185, false), (5, 33, 5, 3, 186, false), (5, 40, 5, 4, 187, false), (5, 44, 5, 5, 188, false), (5, 48, 5, 6, 189, false), (5, 52, 5, 7, 190, false)]
def SLT : List (Nat × Nat × Nat × Nat × Bool) := [(1, 61, 100, 270, true), (1, 64, 101, 271, true), (3, 43, 100, 93, true), (3, 50, 101, 99, true), (5, 135, 102, 275, false)]
def NLT : List (Nat × Nat × Nat × Nat × Nat × Nat) := [(5, 9, 0, 32, 33, 18), (5, 16, 2, 68, 69, 19), (5, 23, 3, 87, 88, 20), (5, 30, 1, 132, 133, 21), (5, 37, 4, 149, 150, 22), (6, 14, 5, 24, 25, 17)]
/-- calls: class, entry, kind (0 virtual, 1 nest virtual, 2 static, 3 nest static, 4 special, 5 nest special), the method, how many arguments, where the words stand -/
def CL : List (Nat × Nat × Nat × MT × Nat × Nat × Nat × Nat × Nat × Nat) := [(0, 37, 3, mX5_isAtom, 1, 294, 295, 0, 17, 296), (0, 41, 0, mX0_setPlane, 5, 347, 349, 9, 18, 350), (0, 45, 3, mX5_side, 2, 265, 245, 0, 17, 246), (0, 49, 3, mX5_onPlane, 1, 266, 242, 0, 17, 243), (0, 53, 0, mX0_contradict, 4, 290, 292, 6, 18, 293), (0, 57, 3, mX5_areEqual, 3, 297, 273, 0, 17, 274), (1, 22, 0, mX1_rebuildCell, 4, 251, 253, 5, 21, 254), (1, 26, 2, mX1_cellOf, 2, 255, 256, 0, 21, 257), (1, 30, 2, mX1_isCell, 1, 258, 259, 0, 21, 260), (1, 34, 0, mX0_sidesNeeded, 1, 261, 262, 263, 18, 264), (1, 40, 2, mX1_pairsNeeded, 1, 267, 268, 0, 21, 269), (1, 43, 0, mX0_sidesSought, 1, 278, 279, 280, 18, 281), (1, 46, 2, mX1_pairsSought, 1, 282, 283, 0, 21, 284), (1, 49, 0, mX0_hasFunction, 2, 286, 287, 288, 18, 289), (1, 53, 0, mX3_havePoint, 2, 298, 299, 300, 20, 301), (1, 58, 0, mX1_isOpen, 1, 314, 315, 316, 21, 317), (1, 67, 3, mX5_areEqual, 3, 272, 273, 0, 17, 274), (1, 71, 3, mX5_onPlane, 1, 277, 242, 0, 17, 243), (1, 74, 3, mX5_side, 2, 285, 245, 0, 17, 246), (2, 25, 0, mX2_isSatisfiedBy, 2, 322, 324, 8, 19, 325), (2, 29, 3, mX5_holdsIn, 2, 326, 327, 0, 17, 328), (3, 46, 0, mX3_addTo, 3, 95, 97, 0, 20, 98), (3, 59, 0, mX3_meet, 3, 220, 222, 2, 20, 223), (3, 62, 2, mX3_determinant, 6, 224, 225, 0, 20, 226), (3, 66, 3, mX5_isWithin, 2, 230, 231, 0, 17, 232), (3, 70, 0, mX3_keep, 4, 233, 235, 3, 20, 236), (3, 74, 2, mX3_isPlane, 1, 227, 228, 0, 20, 229), (3, 78, 0, mX3_findSides, 4, 237, 239, 4, 20, 240), (3, 82, 3, mX5_onPlane, 1, 241, 242, 0, 17, 243), (3, 86, 3, mX5_side, 2, 244, 245, 0, 17, 246), (4, 39, 0, mX4_climbCell, 2, 469, 471, 14, 22, 472), (4, 43, 2, mX4_compare, 4, 493, 494, 0, 22, 495), (4, 47, 0, mX3_count, 0, 473, 474, 475, 20, 476), (4, 53, 0, mX3_sidesOf, 1, 477, 478, 479, 20, 480), (4, 57, 0, mX3_sumAt, 4, 481, 482, 483, 20, 484), (4, 61, 0, mX3_divisorOf, 1, 485, 486, 487, 20, 488), (4, 64, 0, mX4_climbCorner, 3, 489, 491, 15, 22, 492), (4, 68, 2, mX4_commonDivisor, 2, 500, 501, 0, 22, 502), (5, 11, 5, mX0_init, 0, 34, 35, 0, 18, 36), (5, 18, 5, mX2_init, 0, 70, 71, 0, 19, 72), (5, 25, 4, mX3_init, 0, 89, 90, 0, 20, 91), (5, 32, 5, mX1_init, 0, 134, 135, 0, 21, 136), (5, 39, 5, mX4_init, 0, 151, 152, 0, 22, 153), (5, 55, 2, mX5_isAtom, 1, 339, 295, 0, 17, 296), (5, 59, 2, mX5_areFactors, 3, 358, 359, 0, 17, 360), (5, 63, 2, mX5_isLimit, 1, 362, 363, 0, 17, 364), (5, 66, 0, mX0_defineLinear, 6, 365, 366, 367, 18, 368), (5, 70, 2, mX5_isNumber, 1, 340, 341, 0, 17, 342), (5, 73, 0, mX0_defineFact, 3, 343, 344, 345, 18, 346), (5, 77, 0, mX5_isDefined, 1, 376, 378, 10, 17, 379), (5, 80, 0, mX5_isDefinedOrAbsent, 1, 380, 382, 11, 17, 383), (5, 83, 0, mX2_add, 3, 384, 385, 386, 19, 387), (5, 86, 0, mX2_size, 0, 388, 389, 390, 19, 391), (5, 90, 0, mX2_raise, 0, 415, 416, 417, 19, 418), (5, 94, 0, mX2_level, 0, 419, 420, 421, 19, 422), (5, 97, 0, mX2_lower, 0, 432, 433, 434, 19, 435), (5, 100, 0, mX5_refresh, 0, 212, 214, 1, 17, 215), (5, 103, 0, mX5_isWorld, 1, 302, 304, 7, 17, 305), (5, 106, 0, mX0_defined, 0, 306, 307, 308, 18, 309), (5, 109, 2, mX5_holdsIn, 2, 427, 327, 0, 17, 328), (5, 113, 0, mX5_climb, 3, 443, 445, 12, 17, 446), (5, 116, 0, mX4_reducedOver, 0, 496, 497, 498, 22, 499), (5, 120, 0, mX4_reducedUnder, 0, 506, 507, 508, 22, 509), (5, 123, 0, mX4_isFound, 0, 510, 511, 512, 22, 513), (5, 126, 0, mX4_isReached, 0, 514, 515, 516, 22, 517), (5, 129, 0, mX4_isAtMost, 1, 526, 527, 528, 22, 529), (5, 132, 2, mX5_isWithin, 2, 361, 231, 0, 17, 232), (5, 139, 0, mX3_rebuild, 1, 216, 217, 218, 20, 219), (5, 143, 0, mX1_rebuild, 2, 247, 248, 249, 21, 250), (5, 146, 0, mX1_isOpenSomewhere, 1, 310, 311, 312, 21, 313), (5, 149, 0, mX2_areSatisfiedBy, 1, 318, 319, 320, 19, 321), (5, 152, 0, mX4_start, 3, 447, 448, 449, 22, 450), (5, 155, 0, mX5_climbWorld, 1, 451, 453, 13, 17, 454), (5, 159, 2, mX1_cellOf, 2, 455, 256, 0, 21, 257), (5, 163, 0, mX1_isOpen, 1, 456, 315, 316, 21, 317), (5, 166, 0, mX1_neededIn, 1, 457, 458, 459, 21, 460), (5, 170, 0, mX1_soughtIn, 1, 461, 462, 463, 21, 464), (5, 173, 0, mX4_include, 3, 465, 466, 467, 22, 468), (6, 7, 2, mX6_cell, 2, 329, 330, 0, 16, 331), (6, 13, 0, mX5_fact, 3, 335, 336, 337, 17, 338), (6, 19, 2, mX6_small, 1, 351, 352, 0, 16, 353), (6, 23, 0, mX5_linear, 6, 354, 355, 356, 17, 357), (6, 27, 0, mX5_clause, 3, 372, 373, 374, 17, 375), (6, 31, 0, mX5_world, 1, 395, 396, 397, 17, 398), (6, 35, 2, mX6_with, 1, 405, 406, 0, 16, 407), (6, 38, 0, mX5_push, 0, 411, 412, 413, 17, 414), (6, 42, 2, mX6_set, 2, 392, 393, 0, 16, 394), (6, 46, 0, mX5_holds, 1, 423, 424, 425, 17, 426), (6, 49, 0, mX5_pop, 0, 428, 429, 430, 17, 431), (6, 52, 0, mX5_most, 3, 439, 440, 441, 17, 442), (6, 55, 0, mX5_top, 1, 518, 519, 520, 17, 521), (6, 59, 0, mX5_bounded, 4, 522, 523, 524, 17, 525), (6, 63, 2, mX6_compare, 4, 530, 531, 0, 16, 532), (6, 67, 0, mX5_worlds, 0, 208, 209, 210, 17, 211), (6, 78, 4, mX5_init, 0, 26, 27, 0, 17, 28), (6, 79, 2, mX6_atoms, 2, 332, 333, 0, 16, 334), (6, 83, 2, mX6_clauses, 3, 369, 370, 0, 16, 371), (6, 87, 2, mX6_bits, 1, 399, 400, 0, 16, 401), (6, 90, 2, mX6_satisfied, 3, 402, 403, 0, 16, 404), (6, 94, 2, mX6_halves, 3, 408, 409, 0, 16, 410), (6, 98, 2, mX6_tops, 6, 436, 437, 0, 16, 438), (6, 102, 2, mX6_fixed, 3, 537, 538, 0, 16, 539)]
/-- constants of type long: class, entry, which (-99, 99, -98, 100), where the word stands -/
def LCT : List (Nat × Nat × Nat × Nat) := [(6, 70, 0, 533), (6, 72, 1, 534), (6, 74, 2, 535), (6, 76, 3, 536)]
def OLT : List (Nat × Nat × Nat) := [(0, 3, 37), (1, 3, 137), (2, 3, 73), (3, 3, 92), (4, 1, 154), (5, 3, 29)]
-- instanceMethod 30 code 31
-- abs: class 4 entry 72 at 503 static 504 init 23 code 505
-- arrayClass: arrayClass Jvm.ClassFile.FieldType.int 67, arrayClass Jvm.ClassFile.FieldType.boolean 148
-- laysStatic: laysStatic "RationDesk" "PAIR_LEFT" "[I" 94, laysStatic "RationDesk" "PAIR_RIGHT" "[I" 100, laysStatic "RationDesk" "GROUPS" "[I" 276
end
section
-- what the tables of part 01 say stands among the words
def GW : List Cond := lw_tbl.filter goodWord
theorem gw_at {i : Nat} {w : Cond} (h : lw_tbl[i]? = some w) (hg : goodWord w = true) : w ∈ GW := List.mem_filter.mpr ⟨List.mem_of_getElem? h, hg⟩
theorem gw_good : ∀ w ∈ GW, w ∈ GW ∧ ((w.onTables && w.keeps) = true ∨ ∃ ty, w = .arrayClass ty) := fun w h => ⟨h, good_of_word (List.mem_filter.mp h).2⟩
/-- a nest mate's words, which aren't among the good ones -/
def NW : List Cond := lw_tbl.filter (fun w => match w with
  | .fieldLinkNest .. => true
  | .methodLinkNest .. => true
  | _ => false)
theorem nw_f {i : Nat} {a b n d h : String} {k : Nat} (e : lw_tbl[i]? = some (.fieldLinkNest a k b n d h)) : Cond.fieldLinkNest a k b n d h ∈ NW := List.mem_filter.mpr ⟨List.mem_of_getElem? e, rfl⟩
theorem nw_m {i : Nat} {a h : String} {y : MethodName} {k : Nat} (e : lw_tbl[i]? = some (.methodLinkNest a k y h)) : Cond.methodLinkNest a k y h ∈ NW := List.mem_filter.mpr ⟨List.mem_of_getElem? e, rfl⟩
def flW (e : Nat × Nat × Nat × Nat × Nat × Bool) : Cond :=
  if e.2.2.2.2.2 = true then .fieldLinkNest (RN e.1) e.2.1 (TT e.2.2.1 e.2.2.2.1).1 (TT e.2.2.1 e.2.2.2.1).2.1 (TT e.2.2.1 e.2.2.2.1).2.2.1 "RationDesk"
  else .fieldLink (RN e.1) e.2.1 (TT e.2.2.1 e.2.2.2.1).1 (TT e.2.2.1 e.2.2.2.1).2.1 (TT e.2.2.1 e.2.2.2.1).2.2.1
theorem FL_ok : FL.all (fun e => decide (lw_tbl[e.2.2.2.2.1]? = some (flW e)) && decide (e.2.2.1 < 6) && decide (e.2.2.2.1 < nf e.2.2.1)) = true := by decide +kernel
def slName (t : Nat) : String := match t with
  | 100 => "PAIR_LEFT"
  | 101 => "PAIR_RIGHT"
  | _ => "GROUPS"
def slW (e : Nat × Nat × Nat × Nat × Bool) : Cond :=
  if e.2.2.2.2 = true then .fieldLinkNest (RN e.1) e.2.1 "RationDesk" (slName e.2.2.1) "[I" "RationDesk"
  else .fieldLink (RN e.1) e.2.1 "RationDesk" (slName e.2.2.1) "[I"
theorem SLT_ok : SLT.all (fun e => decide (lw_tbl[e.2.2.2.1]? = some (slW e)) && decide (e.2.2.1 = 100 ∨ e.2.2.1 = 101 ∨ e.2.2.1 = 102)) = true := by decide +kernel
theorem NLT_ok : NLT.all (fun e => decide (lw_tbl[e.2.2.2.1]? = some (.classLink (RN e.1) e.2.1 (RN e.2.2.1))) && decide (lw_tbl[e.2.2.2.2.1]? = some (.instantiable (RN e.2.2.1) (nf e.2.2.1))) && decide (lw_tbl[e.2.2.2.2.2]? = some (.initialized (RN e.2.2.1))) && decide (e.2.2.1 < 6)) = true := by decide +kernel
def clOk (e : Nat × Nat × Nat × MT × Nat × Nat × Nat × Nat × Nat × Nat) : Bool := match e with
  | (c, idx, kind, Y, n, p1, p2, p3, p4, p5) =>
    decide (lw_tbl[p1]? = some (if kind % 2 = 1 then .methodLinkNest (RN c) idx Y.1 "RationDesk" else .methodLink (RN c) idx Y.1)) &&
    decide (lw_tbl[p2]? = some (if kind / 2 = 1 then .static Y.1 else .instanceMethod Y.1)) &&
    (kind / 2 != 0 || decide (lw_tbl[p3]? = some (.selects Y.1.cls Y.1 Y.1))) &&
    decide (lw_tbl[p4]? = some (.initialized Y.1.cls)) &&
    decide (Y.1.cls = RN Y.2.2.2.2.2.2) && (kind / 2 == 1 || decide (Y.2.2.2.2.2.2 < 6)) &&
    decide (Y.1.cls ≠ "java/lang/invoke/MethodHandle" ∧ Y.1.cls ≠ "java/lang/invoke/VarHandle" ∧ (parseMethodDescriptor Y.1.desc).map (fun d => d.parameters.length) = some n) &&
    (kind / 2 != 2 || (decide (Y.1.name = "<init>") && decide (Y.2.2.2.1 = none)))
theorem CL_ok : CL.all clOk = true := by decide +kernel
def objWord (e : Nat × Nat × Nat) : Cond := .methodLink (RN e.1) e.2.1 objectInit
theorem OLT_ok : OLT.all (fun e => decide (lw_tbl[e.2.2]? = some (objWord e))) = true := by decide +kernel
theorem obj_ok : lw_tbl[30]? = some (.instanceMethod objectInit) ∧ lw_tbl[31]? = some (.code objectInit ⟨#[0xb1]⟩ 1 none) := by decide +kernel
theorem lay_ok : ∀ c, c < 6 → ∀ w ∈ u_ws (RN c) (TT c) (nf c), w ∈ GW := by
  have h : (List.range 6).all (fun c => (u_ws (RN c) (TT c) (nf c)).all (fun w => decide (w ∈ GW))) = true := by decide +kernel
  intro c hc w hw
  have h1 := List.all_eq_true.mp h c (List.mem_range.mpr hc)
  have h2 := List.all_eq_true.mp h1 w hw
  simpa using h2
theorem cl_at : ∀ c, c < 6 → vwCl[c]? = some (RN c, TT c, nf c) := by
  intro c hc
  rcases (show c = 0 ∨ c = 1 ∨ c = 2 ∨ c = 3 ∨ c = 4 ∨ c = 5 by omega) with rfl | rfl | rfl | rfl | rfl | rfl <;> rfl
theorem nm_ok : ∀ c, c < 6 → ∀ a, a < nf c → ∀ b, b < nf c → a ≠ b → (TT c a).2.1 ≠ (TT c b).2.1 := by decide +kernel
def tyT (c k : Nat) : FieldType := ((parseFieldDescriptor (TT c k).2.2.1)).getD .int
theorem tyT_ok : ∀ c, c < 6 → ∀ k, k < nf c → parseFieldDescriptor (TT c k).2.2.1 = some (tyT c k) := by decide +kernel
theorem arr_ok : lw_tbl[67]? = some (.arrayClass .int) ∧ lw_tbl[148]? = some (.arrayClass .boolean) := by decide +kernel
def lcv (k : Nat) : Int64 := match k with
  | 0 => -99
  | 1 => 99
  | 2 => -98
  | _ => 100
theorem LCT_ok : LCT.all (fun e => decide (lw_tbl[e.2.2.2]? = some (.constantLong (RN e.1) e.2.1 (lcv e.2.2.1)))) = true := by decide +kernel
set_option maxRecDepth 20000 in
theorem cwX0_init : Cond.code mX0_init.1 mX0_init.2.1 mX0_init.2.2.1 mX0_init.2.2.2.1 ∈ GW := gw_at (i := 36) rfl rfl
set_option maxRecDepth 20000 in
theorem cwX0_defined : Cond.code mX0_defined.1 mX0_defined.2.1 mX0_defined.2.2.1 mX0_defined.2.2.2.1 ∈ GW := gw_at (i := 309) rfl rfl
set_option maxRecDepth 20000 in
theorem cwX5_isAtom : Cond.code mX5_isAtom.1 mX5_isAtom.2.1 mX5_isAtom.2.2.1 mX5_isAtom.2.2.2.1 ∈ GW := gw_at (i := 296) rfl rfl
set_option maxRecDepth 20000 in
theorem cwX0_setPlane : Cond.code mX0_setPlane.1 mX0_setPlane.2.1 mX0_setPlane.2.2.1 mX0_setPlane.2.2.2.1 ∈ GW := gw_at (i := 350) rfl rfl
set_option maxRecDepth 20000 in
theorem cwX0_defineLinear : Cond.code mX0_defineLinear.1 mX0_defineLinear.2.1 mX0_defineLinear.2.2.1 mX0_defineLinear.2.2.2.1 ∈ GW := gw_at (i := 368) rfl rfl
set_option maxRecDepth 20000 in
theorem cwX0_defineFact : Cond.code mX0_defineFact.1 mX0_defineFact.2.1 mX0_defineFact.2.2.1 mX0_defineFact.2.2.2.1 ∈ GW := gw_at (i := 346) rfl rfl
set_option maxRecDepth 20000 in
theorem cwX5_onPlane : Cond.code mX5_onPlane.1 mX5_onPlane.2.1 mX5_onPlane.2.2.1 mX5_onPlane.2.2.2.1 ∈ GW := gw_at (i := 243) rfl rfl
set_option maxRecDepth 20000 in
theorem cwX5_side : Cond.code mX5_side.1 mX5_side.2.1 mX5_side.2.2.1 mX5_side.2.2.2.1 ∈ GW := gw_at (i := 246) rfl rfl
set_option maxRecDepth 20000 in
theorem cwX0_sidesNeeded : Cond.code mX0_sidesNeeded.1 mX0_sidesNeeded.2.1 mX0_sidesNeeded.2.2.1 mX0_sidesNeeded.2.2.2.1 ∈ GW := gw_at (i := 264) rfl rfl
set_option maxRecDepth 20000 in
theorem cwX0_sidesSought : Cond.code mX0_sidesSought.1 mX0_sidesSought.2.1 mX0_sidesSought.2.2.1 mX0_sidesSought.2.2.2.1 ∈ GW := gw_at (i := 281) rfl rfl
set_option maxRecDepth 20000 in
theorem cwX5_areEqual : Cond.code mX5_areEqual.1 mX5_areEqual.2.1 mX5_areEqual.2.2.1 mX5_areEqual.2.2.2.1 ∈ GW := gw_at (i := 274) rfl rfl
set_option maxRecDepth 20000 in
theorem cwX0_contradict : Cond.code mX0_contradict.1 mX0_contradict.2.1 mX0_contradict.2.2.1 mX0_contradict.2.2.2.1 ∈ GW := gw_at (i := 293) rfl rfl
set_option maxRecDepth 20000 in
theorem cwX0_hasFunction : Cond.code mX0_hasFunction.1 mX0_hasFunction.2.1 mX0_hasFunction.2.2.1 mX0_hasFunction.2.2.2.1 ∈ GW := gw_at (i := 289) rfl rfl
set_option maxRecDepth 20000 in
theorem cwX1_init : Cond.code mX1_init.1 mX1_init.2.1 mX1_init.2.2.1 mX1_init.2.2.2.1 ∈ GW := gw_at (i := 136) rfl rfl
set_option maxRecDepth 20000 in
theorem cwX1_cellOf : Cond.code mX1_cellOf.1 mX1_cellOf.2.1 mX1_cellOf.2.2.1 mX1_cellOf.2.2.2.1 ∈ GW := gw_at (i := 257) rfl rfl
set_option maxRecDepth 20000 in
theorem cwX1_isCell : Cond.code mX1_isCell.1 mX1_isCell.2.1 mX1_isCell.2.2.1 mX1_isCell.2.2.2.1 ∈ GW := gw_at (i := 260) rfl rfl
set_option maxRecDepth 20000 in
theorem cwX1_pairsNeeded : Cond.code mX1_pairsNeeded.1 mX1_pairsNeeded.2.1 mX1_pairsNeeded.2.2.1 mX1_pairsNeeded.2.2.2.1 ∈ GW := gw_at (i := 269) rfl rfl
set_option maxRecDepth 20000 in
theorem cwX1_pairsSought : Cond.code mX1_pairsSought.1 mX1_pairsSought.2.1 mX1_pairsSought.2.2.1 mX1_pairsSought.2.2.2.1 ∈ GW := gw_at (i := 284) rfl rfl
set_option maxRecDepth 20000 in
theorem cwX3_havePoint : Cond.code mX3_havePoint.1 mX3_havePoint.2.1 mX3_havePoint.2.2.1 mX3_havePoint.2.2.2.1 ∈ GW := gw_at (i := 301) rfl rfl
set_option maxRecDepth 20000 in
theorem cwX1_rebuildCell : Cond.code mX1_rebuildCell.1 mX1_rebuildCell.2.1 mX1_rebuildCell.2.2.1 mX1_rebuildCell.2.2.2.1 ∈ GW := gw_at (i := 254) rfl rfl
set_option maxRecDepth 20000 in
theorem cwX1_rebuild : Cond.code mX1_rebuild.1 mX1_rebuild.2.1 mX1_rebuild.2.2.1 mX1_rebuild.2.2.2.1 ∈ GW := gw_at (i := 250) rfl rfl
set_option maxRecDepth 20000 in
theorem cwX1_isOpen : Cond.code mX1_isOpen.1 mX1_isOpen.2.1 mX1_isOpen.2.2.1 mX1_isOpen.2.2.2.1 ∈ GW := gw_at (i := 317) rfl rfl
set_option maxRecDepth 20000 in
theorem cwX1_neededIn : Cond.code mX1_neededIn.1 mX1_neededIn.2.1 mX1_neededIn.2.2.1 mX1_neededIn.2.2.2.1 ∈ GW := gw_at (i := 460) rfl rfl
set_option maxRecDepth 20000 in
theorem cwX1_soughtIn : Cond.code mX1_soughtIn.1 mX1_soughtIn.2.1 mX1_soughtIn.2.2.1 mX1_soughtIn.2.2.2.1 ∈ GW := gw_at (i := 464) rfl rfl
set_option maxRecDepth 20000 in
theorem cwX1_isOpenSomewhere : Cond.code mX1_isOpenSomewhere.1 mX1_isOpenSomewhere.2.1 mX1_isOpenSomewhere.2.2.1 mX1_isOpenSomewhere.2.2.2.1 ∈ GW := gw_at (i := 313) rfl rfl
set_option maxRecDepth 20000 in
theorem cwX2_init : Cond.code mX2_init.1 mX2_init.2.1 mX2_init.2.2.1 mX2_init.2.2.2.1 ∈ GW := gw_at (i := 72) rfl rfl
set_option maxRecDepth 20000 in
theorem cwX2_size : Cond.code mX2_size.1 mX2_size.2.1 mX2_size.2.2.1 mX2_size.2.2.2.1 ∈ GW := gw_at (i := 391) rfl rfl
set_option maxRecDepth 20000 in
theorem cwX2_level : Cond.code mX2_level.1 mX2_level.2.1 mX2_level.2.2.1 mX2_level.2.2.2.1 ∈ GW := gw_at (i := 422) rfl rfl
set_option maxRecDepth 20000 in
theorem cwX2_add : Cond.code mX2_add.1 mX2_add.2.1 mX2_add.2.2.1 mX2_add.2.2.2.1 ∈ GW := gw_at (i := 387) rfl rfl
set_option maxRecDepth 20000 in
theorem cwX2_raise : Cond.code mX2_raise.1 mX2_raise.2.1 mX2_raise.2.2.1 mX2_raise.2.2.2.1 ∈ GW := gw_at (i := 418) rfl rfl
set_option maxRecDepth 20000 in
theorem cwX2_lower : Cond.code mX2_lower.1 mX2_lower.2.1 mX2_lower.2.2.1 mX2_lower.2.2.2.1 ∈ GW := gw_at (i := 435) rfl rfl
set_option maxRecDepth 20000 in
theorem cwX5_holdsIn : Cond.code mX5_holdsIn.1 mX5_holdsIn.2.1 mX5_holdsIn.2.2.1 mX5_holdsIn.2.2.2.1 ∈ GW := gw_at (i := 328) rfl rfl
set_option maxRecDepth 20000 in
theorem cwX2_isSatisfiedBy : Cond.code mX2_isSatisfiedBy.1 mX2_isSatisfiedBy.2.1 mX2_isSatisfiedBy.2.2.1 mX2_isSatisfiedBy.2.2.2.1 ∈ GW := gw_at (i := 325) rfl rfl
set_option maxRecDepth 20000 in
theorem cwX2_areSatisfiedBy : Cond.code mX2_areSatisfiedBy.1 mX2_areSatisfiedBy.2.1 mX2_areSatisfiedBy.2.2.1 mX2_areSatisfiedBy.2.2.2.1 ∈ GW := gw_at (i := 321) rfl rfl
set_option maxRecDepth 20000 in
theorem cwX3_addTo : Cond.code mX3_addTo.1 mX3_addTo.2.1 mX3_addTo.2.2.1 mX3_addTo.2.2.2.1 ∈ GW := gw_at (i := 98) rfl rfl
set_option maxRecDepth 20000 in
theorem cwX3_init : Cond.code mX3_init.1 mX3_init.2.1 mX3_init.2.2.1 mX3_init.2.2.2.1 ∈ GW := gw_at (i := 91) rfl rfl
set_option maxRecDepth 20000 in
theorem cwX3_count : Cond.code mX3_count.1 mX3_count.2.1 mX3_count.2.2.1 mX3_count.2.2.2.1 ∈ GW := gw_at (i := 476) rfl rfl
set_option maxRecDepth 20000 in
theorem cwX3_sidesOf : Cond.code mX3_sidesOf.1 mX3_sidesOf.2.1 mX3_sidesOf.2.2.1 mX3_sidesOf.2.2.2.1 ∈ GW := gw_at (i := 480) rfl rfl
set_option maxRecDepth 20000 in
theorem cwX3_divisorOf : Cond.code mX3_divisorOf.1 mX3_divisorOf.2.1 mX3_divisorOf.2.2.1 mX3_divisorOf.2.2.2.1 ∈ GW := gw_at (i := 488) rfl rfl
set_option maxRecDepth 20000 in
theorem cwX3_sumAt : Cond.code mX3_sumAt.1 mX3_sumAt.2.1 mX3_sumAt.2.2.1 mX3_sumAt.2.2.2.1 ∈ GW := gw_at (i := 484) rfl rfl
set_option maxRecDepth 20000 in
theorem cwX3_isPlane : Cond.code mX3_isPlane.1 mX3_isPlane.2.1 mX3_isPlane.2.2.1 mX3_isPlane.2.2.2.1 ∈ GW := gw_at (i := 229) rfl rfl
set_option maxRecDepth 20000 in
theorem cwX3_determinant : Cond.code mX3_determinant.1 mX3_determinant.2.1 mX3_determinant.2.2.1 mX3_determinant.2.2.2.1 ∈ GW := gw_at (i := 226) rfl rfl
set_option maxRecDepth 20000 in
theorem cwX3_findSides : Cond.code mX3_findSides.1 mX3_findSides.2.1 mX3_findSides.2.2.1 mX3_findSides.2.2.2.1 ∈ GW := gw_at (i := 240) rfl rfl
set_option maxRecDepth 20000 in
theorem cwX3_keep : Cond.code mX3_keep.1 mX3_keep.2.1 mX3_keep.2.2.1 mX3_keep.2.2.2.1 ∈ GW := gw_at (i := 236) rfl rfl
set_option maxRecDepth 20000 in
theorem cwX5_isWithin : Cond.code mX5_isWithin.1 mX5_isWithin.2.1 mX5_isWithin.2.2.1 mX5_isWithin.2.2.2.1 ∈ GW := gw_at (i := 232) rfl rfl
set_option maxRecDepth 20000 in
theorem cwX3_meet : Cond.code mX3_meet.1 mX3_meet.2.1 mX3_meet.2.2.1 mX3_meet.2.2.2.1 ∈ GW := gw_at (i := 223) rfl rfl
set_option maxRecDepth 20000 in
theorem cwX3_rebuild : Cond.code mX3_rebuild.1 mX3_rebuild.2.1 mX3_rebuild.2.2.1 mX3_rebuild.2.2.2.1 ∈ GW := gw_at (i := 219) rfl rfl
set_option maxRecDepth 20000 in
theorem cwX4_init : Cond.code mX4_init.1 mX4_init.2.1 mX4_init.2.2.1 mX4_init.2.2.2.1 ∈ GW := gw_at (i := 153) rfl rfl
set_option maxRecDepth 20000 in
theorem cwX4_start : Cond.code mX4_start.1 mX4_start.2.1 mX4_start.2.2.1 mX4_start.2.2.2.1 ∈ GW := gw_at (i := 450) rfl rfl
set_option maxRecDepth 20000 in
theorem cwX4_isFound : Cond.code mX4_isFound.1 mX4_isFound.2.1 mX4_isFound.2.2.1 mX4_isFound.2.2.2.1 ∈ GW := gw_at (i := 513) rfl rfl
set_option maxRecDepth 20000 in
theorem cwX4_isReached : Cond.code mX4_isReached.1 mX4_isReached.2.1 mX4_isReached.2.2.1 mX4_isReached.2.2.2.1 ∈ GW := gw_at (i := 517) rfl rfl
set_option maxRecDepth 20000 in
theorem cwX4_isAtMost : Cond.code mX4_isAtMost.1 mX4_isAtMost.2.1 mX4_isAtMost.2.2.1 mX4_isAtMost.2.2.2.1 ∈ GW := gw_at (i := 529) rfl rfl
set_option maxRecDepth 20000 in
theorem cwX4_compare : Cond.code mX4_compare.1 mX4_compare.2.1 mX4_compare.2.2.1 mX4_compare.2.2.2.1 ∈ GW := gw_at (i := 495) rfl rfl
set_option maxRecDepth 20000 in
theorem cwX4_climbCorner : Cond.code mX4_climbCorner.1 mX4_climbCorner.2.1 mX4_climbCorner.2.2.1 mX4_climbCorner.2.2.2.1 ∈ GW := gw_at (i := 492) rfl rfl
set_option maxRecDepth 20000 in
theorem cwX4_climbCell : Cond.code mX4_climbCell.1 mX4_climbCell.2.1 mX4_climbCell.2.2.1 mX4_climbCell.2.2.2.1 ∈ GW := gw_at (i := 472) rfl rfl
set_option maxRecDepth 20000 in
theorem cwX4_include : Cond.code mX4_include.1 mX4_include.2.1 mX4_include.2.2.1 mX4_include.2.2.2.1 ∈ GW := gw_at (i := 468) rfl rfl
set_option maxRecDepth 20000 in
theorem cwX4_commonDivisor : Cond.code mX4_commonDivisor.1 mX4_commonDivisor.2.1 mX4_commonDivisor.2.2.1 mX4_commonDivisor.2.2.2.1 ∈ GW := gw_at (i := 502) rfl rfl
set_option maxRecDepth 20000 in
theorem cwX4_reducedOver : Cond.code mX4_reducedOver.1 mX4_reducedOver.2.1 mX4_reducedOver.2.2.1 mX4_reducedOver.2.2.2.1 ∈ GW := gw_at (i := 499) rfl rfl
set_option maxRecDepth 20000 in
theorem cwX4_reducedUnder : Cond.code mX4_reducedUnder.1 mX4_reducedUnder.2.1 mX4_reducedUnder.2.2.1 mX4_reducedUnder.2.2.2.1 ∈ GW := gw_at (i := 509) rfl rfl
set_option maxRecDepth 20000 in
theorem cwX5_init : Cond.code mX5_init.1 mX5_init.2.1 mX5_init.2.2.1 mX5_init.2.2.2.1 ∈ GW := gw_at (i := 28) rfl rfl
set_option maxRecDepth 20000 in
theorem cwX5_areFactors : Cond.code mX5_areFactors.1 mX5_areFactors.2.1 mX5_areFactors.2.2.1 mX5_areFactors.2.2.2.1 ∈ GW := gw_at (i := 360) rfl rfl
set_option maxRecDepth 20000 in
theorem cwX5_isLimit : Cond.code mX5_isLimit.1 mX5_isLimit.2.1 mX5_isLimit.2.2.1 mX5_isLimit.2.2.2.1 ∈ GW := gw_at (i := 364) rfl rfl
set_option maxRecDepth 20000 in
theorem cwX5_linear : Cond.code mX5_linear.1 mX5_linear.2.1 mX5_linear.2.2.1 mX5_linear.2.2.2.1 ∈ GW := gw_at (i := 357) rfl rfl
set_option maxRecDepth 20000 in
theorem cwX5_isNumber : Cond.code mX5_isNumber.1 mX5_isNumber.2.1 mX5_isNumber.2.2.1 mX5_isNumber.2.2.2.1 ∈ GW := gw_at (i := 342) rfl rfl
set_option maxRecDepth 20000 in
theorem cwX5_fact : Cond.code mX5_fact.1 mX5_fact.2.1 mX5_fact.2.2.1 mX5_fact.2.2.2.1 ∈ GW := gw_at (i := 338) rfl rfl
set_option maxRecDepth 20000 in
theorem cwX5_isDefined : Cond.code mX5_isDefined.1 mX5_isDefined.2.1 mX5_isDefined.2.2.1 mX5_isDefined.2.2.2.1 ∈ GW := gw_at (i := 379) rfl rfl
set_option maxRecDepth 20000 in
theorem cwX5_isDefinedOrAbsent : Cond.code mX5_isDefinedOrAbsent.1 mX5_isDefinedOrAbsent.2.1 mX5_isDefinedOrAbsent.2.2.1 mX5_isDefinedOrAbsent.2.2.2.1 ∈ GW := gw_at (i := 383) rfl rfl
set_option maxRecDepth 20000 in
theorem cwX5_clause : Cond.code mX5_clause.1 mX5_clause.2.1 mX5_clause.2.2.1 mX5_clause.2.2.2.1 ∈ GW := gw_at (i := 375) rfl rfl
set_option maxRecDepth 20000 in
theorem cwX5_push : Cond.code mX5_push.1 mX5_push.2.1 mX5_push.2.2.1 mX5_push.2.2.2.1 ∈ GW := gw_at (i := 414) rfl rfl
set_option maxRecDepth 20000 in
theorem cwX5_pop : Cond.code mX5_pop.1 mX5_pop.2.1 mX5_pop.2.2.1 mX5_pop.2.2.2.1 ∈ GW := gw_at (i := 431) rfl rfl
set_option maxRecDepth 20000 in
theorem cwX5_isWorld : Cond.code mX5_isWorld.1 mX5_isWorld.2.1 mX5_isWorld.2.2.1 mX5_isWorld.2.2.2.1 ∈ GW := gw_at (i := 305) rfl rfl
set_option maxRecDepth 20000 in
theorem cwX5_refresh : Cond.code mX5_refresh.1 mX5_refresh.2.1 mX5_refresh.2.2.1 mX5_refresh.2.2.2.1 ∈ GW := gw_at (i := 215) rfl rfl
set_option maxRecDepth 20000 in
theorem cwX5_worlds : Cond.code mX5_worlds.1 mX5_worlds.2.1 mX5_worlds.2.2.1 mX5_worlds.2.2.2.1 ∈ GW := gw_at (i := 211) rfl rfl
set_option maxRecDepth 20000 in
theorem cwX5_world : Cond.code mX5_world.1 mX5_world.2.1 mX5_world.2.2.1 mX5_world.2.2.2.1 ∈ GW := gw_at (i := 398) rfl rfl
set_option maxRecDepth 20000 in
theorem cwX5_holds : Cond.code mX5_holds.1 mX5_holds.2.1 mX5_holds.2.2.1 mX5_holds.2.2.2.1 ∈ GW := gw_at (i := 426) rfl rfl
set_option maxRecDepth 20000 in
theorem cwX5_climbWorld : Cond.code mX5_climbWorld.1 mX5_climbWorld.2.1 mX5_climbWorld.2.2.1 mX5_climbWorld.2.2.2.1 ∈ GW := gw_at (i := 454) rfl rfl
set_option maxRecDepth 20000 in
theorem cwX5_climb : Cond.code mX5_climb.1 mX5_climb.2.1 mX5_climb.2.2.1 mX5_climb.2.2.2.1 ∈ GW := gw_at (i := 446) rfl rfl
set_option maxRecDepth 20000 in
theorem cwX5_most : Cond.code mX5_most.1 mX5_most.2.1 mX5_most.2.2.1 mX5_most.2.2.2.1 ∈ GW := gw_at (i := 442) rfl rfl
set_option maxRecDepth 20000 in
theorem cwX5_top : Cond.code mX5_top.1 mX5_top.2.1 mX5_top.2.2.1 mX5_top.2.2.2.1 ∈ GW := gw_at (i := 521) rfl rfl
set_option maxRecDepth 20000 in
theorem cwX5_bounded : Cond.code mX5_bounded.1 mX5_bounded.2.1 mX5_bounded.2.2.1 mX5_bounded.2.2.2.1 ∈ GW := gw_at (i := 525) rfl rfl
set_option maxRecDepth 20000 in
theorem cwX6_cell : Cond.code mX6_cell.1 mX6_cell.2.1 mX6_cell.2.2.1 mX6_cell.2.2.2.1 ∈ GW := gw_at (i := 331) rfl rfl
set_option maxRecDepth 20000 in
theorem cwX6_small : Cond.code mX6_small.1 mX6_small.2.1 mX6_small.2.2.1 mX6_small.2.2.2.1 ∈ GW := gw_at (i := 353) rfl rfl
set_option maxRecDepth 20000 in
theorem cwX6_atoms : Cond.code mX6_atoms.1 mX6_atoms.2.1 mX6_atoms.2.2.1 mX6_atoms.2.2.2.1 ∈ GW := gw_at (i := 334) rfl rfl
set_option maxRecDepth 20000 in
theorem cwX6_clauses : Cond.code mX6_clauses.1 mX6_clauses.2.1 mX6_clauses.2.2.1 mX6_clauses.2.2.2.1 ∈ GW := gw_at (i := 371) rfl rfl
set_option maxRecDepth 20000 in
theorem cwX6_set : Cond.code mX6_set.1 mX6_set.2.1 mX6_set.2.2.1 mX6_set.2.2.2.1 ∈ GW := gw_at (i := 394) rfl rfl
set_option maxRecDepth 20000 in
theorem cwX6_bits : Cond.code mX6_bits.1 mX6_bits.2.1 mX6_bits.2.2.1 mX6_bits.2.2.2.1 ∈ GW := gw_at (i := 401) rfl rfl
set_option maxRecDepth 20000 in
theorem cwX6_with : Cond.code mX6_with.1 mX6_with.2.1 mX6_with.2.2.1 mX6_with.2.2.2.1 ∈ GW := gw_at (i := 407) rfl rfl
set_option maxRecDepth 20000 in
theorem cwX6_satisfied : Cond.code mX6_satisfied.1 mX6_satisfied.2.1 mX6_satisfied.2.2.1 mX6_satisfied.2.2.2.1 ∈ GW := gw_at (i := 404) rfl rfl
set_option maxRecDepth 20000 in
theorem cwX6_halves : Cond.code mX6_halves.1 mX6_halves.2.1 mX6_halves.2.2.1 mX6_halves.2.2.2.1 ∈ GW := gw_at (i := 410) rfl rfl
set_option maxRecDepth 20000 in
theorem cwX6_compare : Cond.code mX6_compare.1 mX6_compare.2.1 mX6_compare.2.2.1 mX6_compare.2.2.2.1 ∈ GW := gw_at (i := 532) rfl rfl
set_option maxRecDepth 20000 in
theorem cwX6_tops : Cond.code mX6_tops.1 mX6_tops.2.1 mX6_tops.2.2.1 mX6_tops.2.2.2.1 ∈ GW := gw_at (i := 438) rfl rfl
set_option maxRecDepth 20000 in
theorem cwX6_fixed : Cond.code mX6_fixed.1 mX6_fixed.2.1 mX6_fixed.2.2.1 mX6_fixed.2.2.2.1 ∈ GW := gw_at (i := 539) rfl rfl
end
section
/-! ===== a machine of our own: objects by number in the order in which they are made; what it says, the JVM does (part 04, 05) ===== -/
abbrev Mem : Type := (Nat → Nat → Int32) × (Nat → Nat → Int64) × (Nat → Nat → Value)
def u2 {α : Type} (f : Nat → Nat → α) (o k : Nat) (v : α) : Nat → Nat → α := fun o' k' => if o' = o ∧ k' = k then v else f o' k'
theorem u2_s {α : Type} {f : Nat → Nat → α} {o k : Nat} {v : α} : u2 f o k v o k = v := if_pos ⟨rfl, rfl⟩
theorem u2_o {α : Type} {f : Nat → Nat → α} {o k o' k' : Nat} {v : α} (h : o' ≠ o) : u2 f o k v o' k' = f o' k' := if_neg fun q => h q.1
theorem u2_k {α : Type} {f : Nat → Nat → α} {o k o' k' : Nat} {v : α} (h : k' ≠ k) : u2 f o k v o' k' = f o' k' := if_neg fun q => h q.2
def shg : List (Nat ⊕ (Bool × Nat)) → Nat → Option (Nat ⊕ (Bool × Nat))
  | [], _ => none
  | a :: _, 0 => some a
  | _ :: r, k + 1 => shg r k
def lget : List Value → Nat → Value
  | [], _ => .null
  | v :: _, 0 => v
  | _ :: r, k + 1 => lget r k
def lset : List Value → Nat → Value → List Value
  | [], _, _ => []
  | _ :: r, 0, v => v :: r
  | a :: r, k + 1, v => a :: lset r k v
/-- constants as they are written -/
def c32n (n : Nat) : Int32 := match n with
  | 0 => 0
  | 1 => 1
  | 2 => 2
  | 3 => 3
  | 4 => 4
  | 5 => 5
  | 6 => 6
  | 7 => 7
  | 8 => 8
  | 9 => 9
  | 10 => 10
  | 14 => 14
  | 15 => 15
  | 16 => 16
  | 20 => 20
  | 24 => 24
  | 31 => 31
  | 32 => 32
  | 99 => 99
  | 160 => 160
  | 11 => 11
  | 12 => 12
  | 18 => 18
  | 19 => 19
  | 23 => 23
  | 63 => 63
  | 255 => 255
  | 364 => 364
  | 1000 => 1000
  | n => Int32.ofInt (n : Int)
def c32 (n : Int) : Int32 := match n with
  | .ofNat k => c32n k
  | .negSucc 0 => -1
  | .negSucc 1 => -2
  | .negSucc 19 => -20
  | .negSucc 8 => -9
  | .negSucc 98 => -99
  | n => Int32.ofInt n
theorem c32_eq (n : Int) : Int32.ofInt n = c32 n := by
  unfold c32
  split
  · rename_i k
    unfold c32n
    split <;> first | rfl | decide
  all_goals first | rfl | decide
abbrev ST : Type := List Nat × List Value × List Value × Mem
def rdf (M : Mem) (ci o k : Nat) : Value := match fty ci k with
  | 1 => .long (M.2.1 o k)
  | 2 => M.2.2 o k
  | _ => .int (M.1 o k)
def x_push (v : Value) (s : ST) : Option (ST × Option Prop) := some ((s.1, s.2.1, v :: s.2.2.1, s.2.2.2), none)
def x_ii (f : Int32 → Int32 → Int32) (s : ST) : Option (ST × Option Prop) := match s.2.2.1 with
  | .int y :: .int x :: r => some ((s.1, s.2.1, .int (f x y) :: r, s.2.2.2), none)
  | _ => none
def x_iid (f : Int32 → Int32 → Int32) (s : ST) : Option (ST × Option Prop) := match s.2.2.1 with
  | .int y :: .int x :: r => some ((s.1, s.2.1, .int (f x y) :: r, s.2.2.2), some (¬ y = 0))
  | _ => none
def x_ll (f : Int64 → Int64 → Int64) (s : ST) : Option (ST × Option Prop) := match s.2.2.1 with
  | .long y :: .long x :: r => some ((s.1, s.2.1, .long (f x y) :: r, s.2.2.2), none)
  | _ => none
def x_lld (f : Int64 → Int64 → Int64) (s : ST) : Option (ST × Option Prop) := match s.2.2.1 with
  | .long y :: .long x :: r => some ((s.1, s.2.1, .long (f x y) :: r, s.2.2.2), some (¬ y = 0))
  | _ => none
def x_lcmp (s : ST) : Option (ST × Option Prop) := match s.2.2.1 with
  | .long y :: .long x :: r => some ((s.1, s.2.1, .int (lg_cmp x y) :: r, s.2.2.2), none)
  | _ => none
def x_i (f : Int32 → Value) (s : ST) : Option (ST × Option Prop) := match s.2.2.1 with
  | .int x :: r => some ((s.1, s.2.1, f x :: r, s.2.2.2), none)
  | _ => none
def x_l (f : Int64 → Value) (s : ST) : Option (ST × Option Prop) := match s.2.2.1 with
  | .long x :: r => some ((s.1, s.2.1, f x :: r, s.2.2.2), none)
  | _ => none
def x_iload (k : Nat) (s : ST) : Option (ST × Option Prop) := match lget s.2.1 k with
  | .int x => x_push (.int x) s
  | _ => none
def x_aload (k : Nat) (s : ST) : Option (ST × Option Prop) := match lget s.2.1 k with
  | .ref x => x_push (.ref x) s
  | _ => none
def x_lload (k : Nat) (s : ST) : Option (ST × Option Prop) := match lget s.2.1 k, lget s.2.1 (k + 1) with
  | .long x, .null => x_push (.long x) s
  | _, _ => none
def x_istore (mL k : Nat) (s : ST) : Option (ST × Option Prop) := match s.2.2.1 with
  | .int x :: r => if k < mL then some ((s.1, lset s.2.1 k (.int x), r, s.2.2.2), none) else none
  | _ => none
def x_astore (mL k : Nat) (s : ST) : Option (ST × Option Prop) := match s.2.2.1 with
  | .ref x :: r => if k < mL then some ((s.1, lset s.2.1 k (.ref x), r, s.2.2.2), none) else none
  | _ => none
def x_lstore (mL k : Nat) (s : ST) : Option (ST × Option Prop) := match s.2.2.1 with
  | .long x :: r => if k + 1 < mL then some ((s.1, lset (lset s.2.1 k (.long x)) (k + 1) .null, r, s.2.2.2), none) else none
  | _ => none
def x_iinc (mL k : Nat) (n : Int) (s : ST) : Option (ST × Option Prop) := match lget s.2.1 k with
  | .int x => if k < mL then some ((s.1, lset s.2.1 k (.int (x + c32 n)), s.2.2.1, s.2.2.2), none) else none
  | _ => none
def cat1 (v : Value) : Bool := match v with
  | .int _ => true
  | .ref _ => true
  | _ => false
def x_dup (s : ST) : Option (ST × Option Prop) := match s.2.2.1 with
  | v :: r => if cat1 v = true then some ((s.1, s.2.1, v :: v :: r, s.2.2.2), none) else none
  | _ => none
def x_dupx1 (s : ST) : Option (ST × Option Prop) := match s.2.2.1 with
  | v :: w :: r => if (cat1 v && cat1 w) = true then some ((s.1, s.2.1, v :: w :: v :: r, s.2.2.2), none) else none
  | _ => none
def x_dup2 (s : ST) : Option (ST × Option Prop) := match s.2.2.1 with
  | v :: w :: r => if (cat1 v && cat1 w) = true then some ((s.1, s.2.1, v :: w :: v :: w :: r, s.2.2.2), none) else none
  | _ => none
def x_get (ci k : Nat) (n : Nat) (s : ST) : Option (ST × Option Prop) := match s.2.2.1 with
  | .ref o :: r => match shg SHL o with
    | some (.inl c) => if c = ci ∧ o < n then some ((s.1, s.2.1, rdf s.2.2.2 ci o k :: r, s.2.2.2), none) else none
    | _ => none
  | _ => none
def x_put (ci k : Nat) (n : Nat) (s : ST) : Option (ST × Option Prop) := match s.2.2.1 with
  | v :: .ref o :: r => match shg SHL o with
    | some (.inl c) => if c = ci ∧ o < n then (match fty ci k, v with
      | 0, .int x => some ((s.1, s.2.1, r, (u2 s.2.2.2.1 o k x, s.2.2.2.2)), none)
      | 3, .int x => some ((s.1, s.2.1, r, (u2 s.2.2.2.1 o k x, s.2.2.2.2)), some (x = 0 ∨ x = 1))
      | 1, .long x => some ((s.1, s.2.1, r, (s.2.2.2.1, u2 s.2.2.2.2.1 o k x, s.2.2.2.2.2)), none)
      | 2, .ref x => some ((s.1, s.2.1, r, (s.2.2.2.1, s.2.2.2.2.1, u2 s.2.2.2.2.2 o k (.ref x))), none)
      | _, _ => none) else none
    | _ => none
  | _ => none
abbrev RO : Type := Nat → Option (Nat × (Nat → Int32))
def x_ald (bo : Bool) (ro : RO) (n : Nat) (s : ST) : Option (ST × Option Prop) := match s.2.2.1, s.1 with
  | .int i :: .ref o :: r, h :: hs => match ro o with
    | some (N, f) => if bo = false then some ((hs, s.2.1, .int (f h) :: r, s.2.2.2), some (i = nI h ∧ h < N)) else none
    | none => match shg SHL o with
      | some (.inr (b, N)) => if b = bo ∧ o < n then some ((hs, s.2.1, .int (s.2.2.2.1 o h) :: r, s.2.2.2), some (i = nI h ∧ h < N)) else none
      | _ => none
  | _, _ => none
def x_ast (bo : Bool) (n : Nat) (s : ST) : Option (ST × Option Prop) := match s.2.2.1, s.1 with
  | .int x :: .int i :: .ref o :: r, h :: hs => match shg SHL o with
    | some (.inr (b, N)) => if b = bo ∧ o < n then some ((hs, s.2.1, r, (u2 s.2.2.2.1 o h x, s.2.2.2.2)), some (match bo with
      | true => i = nI h ∧ h < N ∧ (x = 0 ∨ x = 1)
      | false => i = nI h ∧ h < N)) else none
    | _ => none
  | _, _ => none
def x_alen (ro : RO) (n : Nat) (s : ST) : Option (ST × Option Prop) := match s.2.2.1 with
  | .ref o :: r => match ro o with
    | some (N, _) => some ((s.1, s.2.1, .int (nI N) :: r, s.2.2.2), none)
    | none => match shg SHL o with
      | some (.inr (_, N)) => if o < n then some ((s.1, s.2.1, .int (nI N) :: r, s.2.2.2), none) else none
      | _ => none
  | _ => none
/-- one instruction; a, b: what the pool's entry says (a field's class and place; the number of a static row); the hints: where a row is read or written -/
def ex1 (ro : RO) (mL n : Nat) (i : Instr) (a b : Nat) (s : ST) : Option (ST × Option Prop) := match i with
  | .iconst z => x_push (.int (c32 z)) s
  | .bipush z => x_push (.int (c32 z)) s
  | .sipush z => x_push (.int (c32 z)) s
  | .lconst z => x_push (.long (if z = 0 then 0 else 1)) s
  | .iload k => x_iload k s
  | .iload_n k => x_iload k.val s
  | .aload k => x_aload k s
  | .aload_n k => x_aload k.val s
  | .lload k => x_lload k s
  | .lload_n k => x_lload k.val s
  | .istore k => x_istore mL k s
  | .istore_n k => x_istore mL k.val s
  | .astore k => x_astore mL k s
  | .astore_n k => x_astore mL k.val s
  | .lstore k => x_lstore mL k s
  | .lstore_n k => x_lstore mL k.val s
  | .iinc k z => x_iinc mL k z s
  | .iadd => x_ii (fun x y => x + y) s
  | .isub => x_ii (fun x y => x - y) s
  | .imul => x_ii (fun x y => x * y) s
  | .iand => x_ii (fun x y => x &&& y) s
  | .ior => x_ii (fun x y => x ||| y) s
  | .ixor => x_ii (fun x y => x ^^^ y) s
  | .ishl => x_ii (fun x y => x <<< (y &&& 31)) s
  | .ishr => x_ii (fun x y => x >>> (y &&& 31)) s
  | .iushr => x_ii (fun x y => (x.toUInt32 >>> (y.toUInt32 &&& Int32.toUInt32 31)).toInt32) s
  | .l2i => x_l (fun x => .int x.toInt32) s
  | .ldc2_w _ => x_push (.long (lcv a)) s
  | .idiv => x_iid (fun x y => x / y) s
  | .irem => x_iid (fun x y => x - x / y * y) s
  | .ineg => x_i (fun x => .int (-x)) s
  | .i2l => x_i (fun x => .long x.toInt64) s
  | .ladd => x_ll (fun x y => x + y) s
  | .lsub => x_ll (fun x y => x - y) s
  | .lmul => x_ll (fun x y => x * y) s
  | .ldiv => x_lld (fun x y => x / y) s
  | .lrem => x_lld (fun x y => x - x / y * y) s
  | .lneg => x_l (fun x => .long (-x)) s
  | .lcmp => x_lcmp s
  | .dup => x_dup s
  | .dup_x1 => x_dupx1 s
  | .dup2 => x_dup2 s
  | .getfield _ => x_get a b n s
  | .putfield _ => x_put a b n s
  | .getstatic _ => x_push (.ref a) s
  | .iaload => x_ald false ro n s
  | .baload => x_ald true ro n s
  | .iastore => x_ast false n s
  | .bastore => x_ast true n s
  | .arraylength => x_alen ro n s
  | _ => none
def andc : Option Prop → Prop → Prop
  | none, C => C
  | some c, C => c ∧ C
abbrev Blk : Type := List (Instr × Nat × Nat)
def exL (ro : RO) (mL n : Nat) : Blk → ST → Option (ST × Prop)
  | [], s => some (s, True)
  | i :: r, s => match ex1 ro mL n i.1 i.2.1 i.2.2 s with
    | none => none
    | some (s1, c1) => match exL ro mL n r s1 with
      | none => none
      | some (s2, c2) => some (s2, andc c1 c2)
/-- the pool's entries are as the block says -/
def annOk (cn : Nat) (ini : Bool) (i : Instr) (a b : Nat) : Bool := match i with
  | .getfield x => FL.any (fun e => e.1 == cn && e.2.1 == x && e.2.2.1 == a && e.2.2.2.1 == b)
  | .putfield x => FL.any (fun e => e.1 == cn && e.2.1 == x && e.2.2.1 == a && e.2.2.2.1 == b && e.2.2.2.2.2 == false) && ((TT a b).2.2.2 == false || (ini && a == cn))
  | .ldc2_w x => LCT.any (fun e => e.1 == cn && e.2.1 == x && e.2.2.1 == a)
  | .getstatic x => SLT.any (fun e => e.1 == cn && e.2.1 == x && e.2.2.1 == a)
  | .bipush z => decide ((Int8.ofInt z).toInt32 = c32 z)
  | .sipush z => decide ((Int16.ofInt z).toInt32 = c32 z)
  | _ => true
def okd (cc : ByteArray) (pc : Nat) (i : Instr) (k : Nat) : Bool := match decode cc pc with
  | .ok (j, l) => decide (j = i) && decide (l = k)
  | .error _ => false
theorem okd_eq {cc : ByteArray} {pc : Nat} {i : Instr} {k : Nat} (h : okd cc pc i k = true) : decode cc pc = .ok (i, k) := by
  unfold okd at h
  cases hd : decode cc pc with
  | error x => rw [hd] at h; cases h
  | ok v =>
    obtain ⟨j, l⟩ := v
    rw [hd] at h
    simp only [Bool.and_eq_true, decide_eq_true_eq] at h
    rw [h.1, h.2]
def ilen (i : Instr) : Nat := match i with
  | .iload _ => 2
  | .aload _ => 2
  | .lload _ => 2
  | .istore _ => 2
  | .astore _ => 2
  | .lstore _ => 2
  | .bipush _ => 2
  | .sipush _ => 3
  | .iinc _ _ => 3
  | .getfield _ => 3
  | .putfield _ => 3
  | .getstatic _ => 3
  | .ldc2_w _ => 3
  | _ => 1
def codeAt (cc : ByteArray) (cn : Nat) (ini : Bool) : Nat → Blk → Option Nat
  | pc, [] => some pc
  | pc, i :: r => if (okd cc pc i.1 (ilen i.1) && annOk cn ini i.1 i.2.1 i.2.2) = true then codeAt cc cn ini (pc + ilen i.1) r else none
/-- the locals: what a list says of them ('.null': nothing, or a long's second half) -/
def clm (L : List Value) (i : Nat) (v : Value) : Prop := lget L i = v ∧ ((∃ x, v = .int x) ∨ (∃ x, v = .ref x) ∨ (∃ x, v = .long x) ∧ lget L (i + 1) = .null)
def rv (ad : Nat → Nat) (v : Value) : Value := match v with
  | .ref o => .ref (ad o)
  | v => v
def lr (ad : Nat → Nat) (ls : Array Slot) (nL : Nat) (L : List Value) : Prop := ls.size = nL ∧ lv_wf ls ∧ L.length = nL ∧ ∀ (i : Nat) (v : Value), clm L i v → ls[i]? = some (.val (rv ad v))
theorem lget_set {L : List Value} {k : Nat} {v : Value} (h : k < L.length) (i : Nat) : lget (lset L k v) i = if i = k then v else lget L i := by
  induction L generalizing k i with
  | nil => simp at h
  | cons a r ih =>
    cases k with
    | zero =>
      cases i with
      | zero => rfl
      | succ i => rfl
    | succ k =>
      cases i with
      | zero => simp [lset, lget]
      | succ i =>
        have := ih (k := k) (by simpa using h) i
        simp only [lset, lget, this, Nat.add_right_cancel_iff]
theorem lset_len {L : List Value} {k : Nat} {v : Value} : (lset L k v).length = L.length := by
  induction L generalizing k with
  | nil => rfl
  | cons a r ih =>
    cases k with
    | zero => rfl
    | succ k => simp [lset, ih]
theorem lr.at {ad : Nat → Nat} {ls : Array Slot} {nL : Nat} {L : List Value} (h : lr ad ls nL L) {i : Nat} {v : Value} (hv : clm L i v) : ls[i]? = some (.val (rv ad v)) := h.2.2.2 i v hv
theorem rv_cat (ad : Nat → Nat) (v : Value) : (rv ad v).category = v.category := by cases v <;> rfl
/-- a store of one slot -/
theorem lr_store1 {ad : Nat → Nat} {ls : Array Slot} {nL : Nat} {L : List Value} {k : Nat} {v : Value} (h : lr ad ls nL L) (hk : k < nL) (hv : (∃ x, v = .int x) ∨ ∃ x, v = .ref x) :
    ∃ ls', storeLocals ls k (rv ad v) = some ls' ∧ lr ad ls' nL (lset L k v) := by
  have hc : (rv ad v).category = 1 := by rcases hv with ⟨x, rfl⟩ | ⟨x, rfl⟩ <;> rfl
  have hall : ∀ l : List (Nat × Value), (∀ q ∈ l, ls[q.1]? = some (.val q.2)) → ∃ ls', storeLocals ls k (rv ad v) = some ls' ∧ lv_has ls' nL ((k, rv ad v) :: l.filter (fun q => !(q.1 == k) && !(q.1 + 1 == k && q.2.category == 2))) :=
    fun l hl => lv_store1 (l := l) ⟨h.1, h.2.1, hl⟩ hk hc
  obtain ⟨ls', e, h'⟩ := hall [] (fun q hq => by cases hq)
  refine ⟨ls', e, h'.1, h'.2.1, by rw [lset_len]; exact h.2.2.1, fun i w hw => ?_⟩
  have hkl : k < L.length := by rw [h.2.2.1]; exact hk
  obtain ⟨hw1, hw2⟩ := hw
  rw [lget_set hkl] at hw1
  by_cases hik : i = k
  · rw [if_pos hik] at hw1
    subst hw1; subst hik
    exact h'.2.2 (i, rv ad v) List.mem_cons_self
  · rw [if_neg hik] at hw1
    have hcl : clm L i w := by
      refine ⟨hw1, ?_⟩
      rcases hw2 with h1 | h1 | ⟨h1, h2⟩
      · exact Or.inl h1
      · exact Or.inr (Or.inl h1)
      · refine Or.inr (Or.inr ⟨h1, ?_⟩)
        rw [lget_set hkl] at h2
        by_cases hi1 : i + 1 = k
        · rw [if_pos hi1] at h2
          subst h2
          rcases hv with ⟨x, hx⟩ | ⟨x, hx⟩ <;> cases hx
        · rw [if_neg hi1] at h2
          exact h2
    have hnot : ¬ (i + 1 = k ∧ (rv ad w).category = 2) := by
      rintro ⟨q1, q2⟩
      rcases hw2 with ⟨x, rfl⟩ | ⟨x, rfl⟩ | ⟨⟨x, rfl⟩, h2⟩
      · cases q2
      · cases q2
      · rw [lget_set hkl, if_pos q1] at h2
        subst h2
        rcases hv with ⟨x, hx⟩ | ⟨x, hx⟩ <;> cases hx
    obtain ⟨ls2, e2, h2⟩ := hall [(i, rv ad w)] (fun q hq => by
      rw [List.mem_singleton] at hq
      subst hq
      exact h.at hcl)
    have : ls2 = ls' := Option.some.inj (e2.symm.trans e)
    subst this
    refine h2.2.2 (i, rv ad w) (List.mem_cons_of_mem _ (List.mem_filter.mpr ⟨List.mem_singleton.mpr rfl, ?_⟩))
    simp only [Bool.and_eq_true, Bool.not_eq_true', beq_eq_false_iff_ne, ne_eq, Bool.and_eq_false_iff]
    refine ⟨hik, ?_⟩
    by_cases q1 : i + 1 = k
    · exact Or.inr fun q2 => hnot ⟨q1, q2⟩
    · exact Or.inl q1
/-- a store of a long -/
theorem lr_store2 {ad : Nat → Nat} {ls : Array Slot} {nL : Nat} {L : List Value} {k : Nat} {x : Int64} (h : lr ad ls nL L) (hk : k + 1 < nL) :
    ∃ ls', storeLocals ls k (.long x) = some ls' ∧ lr ad ls' nL (lset (lset L k (.long x)) (k + 1) .null) := by
  have hall : ∀ l : List (Nat × Value), (∀ q ∈ l, ls[q.1]? = some (.val q.2)) → ∃ ls', storeLocals ls k (.long x) = some ls' ∧ lv_has ls' nL ((k, .long x) :: l.filter (fun q => !(q.1 == k) && (!(q.1 == k + 1) && !(q.1 + 1 == k && q.2.category == 2)))) :=
    fun l hl => lv_store2 (l := l) ⟨h.1, h.2.1, hl⟩ hk rfl
  obtain ⟨ls', e, h'⟩ := hall [] (fun q hq => by cases hq)
  have hkl : k < L.length := by rw [h.2.2.1]; omega
  have hkl2 : k + 1 < (lset L k (.long x)).length := by rw [lset_len, h.2.2.1]; exact hk
  refine ⟨ls', e, h'.1, h'.2.1, by rw [lset_len, lset_len]; exact h.2.2.1, fun i w hw => ?_⟩
  obtain ⟨hw1, hw2⟩ := hw
  have g : ∀ i, lget (lset (lset L k (.long x)) (k + 1) .null) i = if i = k + 1 then .null else if i = k then .long x else lget L i := fun i => by
    rw [lget_set hkl2, lget_set hkl]
  rw [g] at hw1
  by_cases hi1 : i = k + 1
  · rw [if_pos hi1] at hw1
    subst hw1
    rcases hw2 with ⟨x, hx⟩ | ⟨x, hx⟩ | ⟨⟨x, hx⟩, -⟩ <;> cases hx
  · rw [if_neg hi1] at hw1
    by_cases hik : i = k
    · rw [if_pos hik] at hw1
      subst hw1; subst hik
      exact h'.2.2 (i, .long x) List.mem_cons_self
    · rw [if_neg hik] at hw1
      have hnl : ¬ (i + 1 = k ∧ (rv ad w).category = 2) := by
        rintro ⟨q1, q2⟩
        rcases hw2 with ⟨y, rfl⟩ | ⟨y, rfl⟩ | ⟨⟨y, rfl⟩, h2⟩
        · cases q2
        · cases q2
        · rw [g, if_neg (by omega), if_pos q1] at h2
          cases h2
      have hcl : clm L i w := by
        refine ⟨hw1, ?_⟩
        rcases hw2 with h1 | h1 | ⟨h1, h2⟩
        · exact Or.inl h1
        · exact Or.inr (Or.inl h1)
        · refine Or.inr (Or.inr ⟨h1, ?_⟩)
          have n1 : ¬ i + 1 = k := fun q => hnl ⟨q, by obtain ⟨y, rfl⟩ := h1; rfl⟩
          rw [g, if_neg (by omega), if_neg n1] at h2
          exact h2
      obtain ⟨ls2, e2, h2⟩ := hall [(i, rv ad w)] (fun q hq => by
        rw [List.mem_singleton] at hq
        subst hq
        exact h.at hcl)
      have : ls2 = ls' := Option.some.inj (e2.symm.trans e)
      subst this
      refine h2.2.2 (i, rv ad w) (List.mem_cons_of_mem _ (List.mem_filter.mpr ⟨List.mem_singleton.mpr rfl, ?_⟩))
      simp only [Bool.and_eq_true, Bool.not_eq_true', beq_eq_false_iff_ne, ne_eq, Bool.and_eq_false_iff]
      refine ⟨hik, hi1, ?_⟩
      by_cases q1 : i + 1 = k
      · exact Or.inr fun q2 => hnl ⟨q1, q2⟩
      · exact Or.inl q1
end
section
/-! ===== the heap behind the machine's memory ===== -/
def fval (ad : Nat → Nat) (M : Mem) (ci o k : Nat) : Value := rv ad (rdf M ci o k)
def went (ad : Nat → Nat) (cA : Nat → ClassId) (M : Mem) (i : Nat) : Nat × va_E := (ad i, match shg SHL i with
  | some (.inl ci) => .inr (ci, (List.range (nf ci)).map (fval ad M ci i))
  | some (.inr (_, N)) => .inl (cA i, N, .inl (M.1 i))
  | none => .inr (0, []))
def wl (n : Nat) (ad : Nat → Nat) (cA : Nat → ClassId) (M : Mem) : va_W := (List.range n).map (went ad cA M)
theorem wl_at {n : Nat} {ad : Nat → Nat} {cA : Nat → ClassId} {M : Mem} {i : Nat} (h : i < n) : (wl n ad cA M)[i]? = some (went ad cA M i) := by simp [wl, h]
theorem wl_set {n : Nat} {ad : Nat → Nat} {cA : Nat → ClassId} {M M' : Mem} {i : Nat} {e : va_E} (he : went ad cA M' i = (ad i, e)) (ho : ∀ j, j ≠ i → went ad cA M' j = went ad cA M j) : (wl n ad cA M).set i (ad i, e) = wl n ad cA M' := by
  apply List.ext_getElem?
  intro j
  simp only [wl, List.getElem?_set, List.length_map, List.length_range, List.getElem?_map]
  by_cases hj : i = j
  · subst hj
    by_cases hn : i < n
    · simp [hn, he]
    · simp [hn]
  · rw [if_neg hj]
    by_cases hn : j < n
    · simp [hn, ho j (Ne.symm hj)]
    · simp [hn]
def bty (b : Bool) : FieldType := if b = true then .boolean else .int
def RelH (n : Nat) (M : Mem) (ad : Nat → Nat) (cA : Nat → ClassId) (D : va_G) (A : Nat → Prop) (H : Heap) (s : State) : Prop :=
  va_P D vwCl (wl n ad cA M) H ∧ va_D A (wl n ad cA M) ∧ va_K D vwCl [] s ∧ ∀ i, i < n → ∀ b N, shg SHL i = some (.inr (b, N)) → ArrOfT s (cA i) (bty b) ∧ va_RA s (cA i) (bty b)
theorem RelH.moved {n : Nat} {M : Mem} {ad : Nat → Nat} {cA : Nat → ClassId} {D : va_G} {A : Nat → Prop} {H : Heap} {u U : State} (hvm : u.vm.Alike U.vm) (h : RelH n M ad cA D A H u) : RelH n M ad cA D A H U :=
  ⟨h.1, h.2.1, h.2.2.1.moved hvm, fun i hi b N hb => ⟨arrOfT_moved hvm (h.2.2.2 i hi b N hb).1, (h.2.2.2 i hi b N hb).2.moved hvm⟩⟩
theorem RelH.kty {n : Nat} {M : Mem} {ad : Nat → Nat} {cA : Nat → ClassId} {D : va_G} {A : Nat → Prop} {H : Heap} {s : State} (h : RelH n M ad cA D A H s) {i : Nat} (hi : i < n) {b : Bool} {N : Nat} (hb : shg SHL i = some (.inr (b, N))) : va_K D vwCl [(cA i, bty b)] s :=
  ⟨h.2.2.1.1, fun k q hq => by
    have hk : k = 0 := by
      have := (List.getElem?_eq_some_iff.mp hq).1
      simp at this
      omega
    subst hk
    cases hq
    exact h.2.2.2 i hi b N hb⟩
theorem RelH.lt {n : Nat} {M : Mem} {ad : Nat → Nat} {cA : Nat → ClassId} {D : va_G} {A : Nat → Prop} {H : Heap} {s : State} (h : RelH n M ad cA D A H s) {i : Nat} (hi : i < n) : ad i < H.size := (h.1 i _ (wl_at hi)).lt
theorem RelH.inA {n : Nat} {M : Mem} {ad : Nat → Nat} {cA : Nat → ClassId} {D : va_G} {A : Nat → Prop} {H : Heap} {s : State} (h : RelH n M ad cA D A H s) {i : Nat} (hi : i < n) : A (ad i) := h.2.1.2 i _ (wl_at hi)
def ROok (ro : RO) (ad : Nat → Nat) (A : Nat → Prop) (s : State) : Prop := ∀ o N f, ro o = some (N, f) → N < 2 ^ 31 ∧ 39 ≤ o ∧ va_T .int (ad o) N (fun j => .int (f j)) A s s.heap
def Zok (ad : Nat → Nat) (A : Nat → Prop) (s : State) : Prop := ∀ t, (t = 100 ∨ t = 101 ∨ t = 102) → va_Z "RationDesk" (slName t) "[I" (.ref (ad t)) A s s.heap
def ro0 : RO := fun o => match o with
  | 100 => some (3, fun j => match j with
    | 0 => 0
    | 1 => 0
    | _ => 1)
  | 101 => some (3, fun j => match j with
    | 0 => 1
    | _ => 2)
  | 102 => some (15, fun j => match j with
    | 0 => 0
    | 1 => 1
    | 2 => 2
    | 3 => 0
    | 4 => 0
    | 5 => 1
    | 6 => 0
    | 7 => 1
    | 8 => 0
    | 9 => 0
    | 10 => 1
    | 11 => 1
    | _ => 0)
  | _ => none
/-- what a frame of the method Y may lean on -/
def FC (ro : RO) (Y : MT) (p : Program) (R : Room) (s : State) (m : MethodId) (args : Array Value) (meth : Method) (c : Code) (A : Nat → Prop) (ad : Nat → Nat) : Prop :=
  p.tables.exec = Jvm.exec ∧ c.code = Y.2.1 ∧ c.maxLocals = Y.2.2.1 ∧ s.vm.findClass (RN Y.2.2.2.2.2.2) = some m.cls ∧ (∀ w ∈ GW, w.before args s = true) ∧ (∀ w ∈ NW, va_Nw w s) ∧ (∀ q, s.heap.size ≤ q → A q) ∧ ROok ro ad A s ∧ Zok ad A s ∧
  (Y.2.2.2.2.1 ≤ R.frames ∧ Y.2.2.2.2.2.1 ≤ R.locals) ∧ ((Y.1.name == "<init>") = true → meth.name = "<init>")
theorem vpin_of {i : Int32} {h N : Nat} (e : i = nI h) (hN : h < N) (hb : N < 2 ^ 31) : vp_in i N ∧ i.toNatClampNeg = h := by
  subst e
  exact ⟨vp_in_nI hN hb, nI_clamp (by omega)⟩
theorem sh_small : ∀ i b N, shg SHL i = some (.inr (b, N)) → N < 2 ^ 31 := by
  have h : (List.range 39).all (fun i => match shg SHL i with
    | some (.inr (_, N)) => decide (N < 2 ^ 31)
    | _ => true) = true := by decide +kernel
  intro i b N hi
  have hlt : i < 39 := by
    by_cases q : i < 39
    · exact q
    · have e : ∀ (l : List (Nat ⊕ (Bool × Nat))) (k : Nat), l.length ≤ k → shg l k = none := by
        intro l
        induction l with
        | nil => intro k _; rfl
        | cons a r ih =>
          intro k hk
          cases k with
          | zero => simp at hk
          | succ k => exact ih k (by simpa using hk)
      rw [e SHL i (by show 27 ≤ i; omega)] at hi
      cases hi
  have := List.all_eq_true.mp h i (List.mem_range.mpr hlt)
  rw [hi] at this
  simpa using this
theorem sh_cls : ∀ i c, shg SHL i = some (.inl c) → c < 6 := by
  have h : (List.range 39).all (fun i => match shg SHL i with
    | some (.inl c) => decide (c < 6)
    | _ => true) = true := by decide +kernel
  intro i c hi
  have hlt : i < 39 := by
    by_cases q : i < 39
    · exact q
    · have e : ∀ (l : List (Nat ⊕ (Bool × Nat))) (k : Nat), l.length ≤ k → shg l k = none := by
        intro l
        induction l with
        | nil => intro k _; rfl
        | cons a r ih =>
          intro k hk
          cases k with
          | zero => simp at hk
          | succ k => exact ih k (by simpa using hk)
      rw [e SHL i (by show 27 ≤ i; omega)] at hi
      cases hi
  have := List.all_eq_true.mp h i (List.mem_range.mpr hlt)
  rw [hi] at this
  simpa using this
theorem fl_spec {cn x a b : Nat} (h : FL.any (fun e => e.1 == cn && e.2.1 == x && e.2.2.1 == a && e.2.2.2.1 == b) = true) :
    ((Cond.fieldLink (RN cn) x (TT a b).1 (TT a b).2.1 (TT a b).2.2.1 ∈ GW) ∨ (Cond.fieldLinkNest (RN cn) x (TT a b).1 (TT a b).2.1 (TT a b).2.2.1 "RationDesk" ∈ NW)) ∧ a < 6 ∧ b < nf a := by
  obtain ⟨e, he, h⟩ := List.any_eq_true.mp h
  have h2 := List.all_eq_true.mp FL_ok e he
  simp only [Bool.and_eq_true, beq_iff_eq, decide_eq_true_eq] at h h2
  obtain ⟨⟨⟨h3, h4⟩, h5⟩, h6⟩ := h
  obtain ⟨⟨g1, g2⟩, g3⟩ := h2
  subst h3; subst h4; subst h5; subst h6
  refine ⟨?_, g2, g3⟩
  unfold flW at g1
  split at g1
  · exact Or.inr (nw_f g1)
  · exact Or.inl (gw_at g1 rfl)
theorem fl_spec2 {cn x a b : Nat} (h : FL.any (fun e => e.1 == cn && e.2.1 == x && e.2.2.1 == a && e.2.2.2.1 == b && e.2.2.2.2.2 == false) = true) :
    (Cond.fieldLink (RN cn) x (TT a b).1 (TT a b).2.1 (TT a b).2.2.1 ∈ GW) ∧ a < 6 ∧ b < nf a := by
  obtain ⟨e, he, h⟩ := List.any_eq_true.mp h
  have h2 := List.all_eq_true.mp FL_ok e he
  simp only [Bool.and_eq_true, beq_iff_eq, decide_eq_true_eq] at h h2
  obtain ⟨⟨⟨⟨h3, h4⟩, h5⟩, h6⟩, h7⟩ := h
  obtain ⟨⟨g1, g2⟩, g3⟩ := h2
  subst h3; subst h4; subst h5; subst h6
  refine ⟨?_, g2, g3⟩
  unfold flW at g1
  rw [h7] at g1
  exact gw_at g1 rfl
theorem sl_spec {cn x a : Nat} (h : SLT.any (fun e => e.1 == cn && e.2.1 == x && e.2.2.1 == a) = true) :
    ((Cond.fieldLink (RN cn) x "RationDesk" (slName a) "[I" ∈ GW) ∨ (Cond.fieldLinkNest (RN cn) x "RationDesk" (slName a) "[I" "RationDesk" ∈ NW)) ∧ (a = 100 ∨ a = 101 ∨ a = 102) := by
  obtain ⟨e, he, h⟩ := List.any_eq_true.mp h
  have h2 := List.all_eq_true.mp SLT_ok e he
  simp only [Bool.and_eq_true, beq_iff_eq, decide_eq_true_eq] at h h2
  obtain ⟨⟨h3, h4⟩, h5⟩ := h
  obtain ⟨g1, g2⟩ := h2
  subst h3; subst h4; subst h5
  refine ⟨?_, g2⟩
  unfold slW at g1
  split at g1
  · exact Or.inr (nw_f g1)
  · exact Or.inl (gw_at g1 rfl)
theorem lc_spec {cn x a : Nat} (h : LCT.any (fun e => e.1 == cn && e.2.1 == x && e.2.2.1 == a) = true) : Cond.constantLong (RN cn) x (lcv a) ∈ GW := by
  obtain ⟨e, he, h⟩ := List.any_eq_true.mp h
  have h2 := List.all_eq_true.mp LCT_ok e he
  simp only [Bool.and_eq_true, beq_iff_eq, decide_eq_true_eq] at h h2
  obtain ⟨⟨h3, h4⟩, h5⟩ := h
  subst h3; subst h4; subst h5
  exact gw_at h2 rfl
theorem fty_ty : ∀ c, c < 6 → ∀ k, k < nf c → (fty c k = 0 → parseFieldDescriptor (TT c k).2.2.1 = some .int) ∧ (fty c k = 1 → parseFieldDescriptor (TT c k).2.2.1 = some .long) ∧ (fty c k = 3 → parseFieldDescriptor (TT c k).2.2.1 = some .boolean) ∧ (fty c k = 2 → ∃ t, parseFieldDescriptor (TT c k).2.2.1 = some t ∧ (∀ a, fits t (.ref a) = true) ∧ ∀ a, narrow t (.ref a) = .ref a) := by
  intro c hc k hk
  have h : ∀ c, c < 6 → ∀ k, k < nf c → (fty c k = 0 → parseFieldDescriptor (TT c k).2.2.1 = some .int) ∧ (fty c k = 1 → parseFieldDescriptor (TT c k).2.2.1 = some .long) ∧ (fty c k = 3 → parseFieldDescriptor (TT c k).2.2.1 = some .boolean) ∧ (fty c k = 2 → (tyT c k).isReference = true) := by decide +kernel
  obtain ⟨h1, h2, h3, h4⟩ := h c hc k hk
  refine ⟨h1, h2, h3, fun q => ⟨tyT c k, tyT_ok c hc k hk, fun a => ?_, fun a => ?_⟩⟩
  · have := h4 q
    cases hq : tyT c k <;> rw [hq] at this <;> first | rfl | cases this
  · have := h4 q
    cases hq : tyT c k <;> rw [hq] at this <;> first | rfl | cases this
theorem fval_set {ad : Nat → Nat} {M M' : Mem} {ci o k : Nat} {v : Value} (hv : rdf M' ci o k = v) (ho : ∀ j, j ≠ k → rdf M' ci o j = rdf M ci o j) : ((List.range (nf ci)).map (fval ad M ci o)).set k (rv ad v) = (List.range (nf ci)).map (fval ad M' ci o) := by
  apply List.ext_getElem?
  intro j
  simp only [List.getElem?_set, List.length_map, List.length_range, List.getElem?_map]
  by_cases hj : k = j
  · subst hj
    by_cases hn : k < nf ci
    · simp [hn, fval, hv]
    · simp [hn]
  · rw [if_neg hj]
    by_cases hn : j < nf ci
    · simp [hn, fval, ho j (Ne.symm hj)]
    · simp [hn]
theorem went_o {ad : Nat → Nat} {cA : Nat → ClassId} {M M' : Mem} {j : Nat} (h1 : M'.1 j = M.1 j) (h2 : M'.2.1 j = M.2.1 j) (h3 : M'.2.2 j = M.2.2 j) : went ad cA M' j = went ad cA M j := by
  have : ∀ ci, fval ad M' ci j = fval ad M ci j := fun ci => by
    funext k
    unfold fval rdf
    rw [h1, h2, h3]
  unfold went
  rw [h1]
  split <;> simp [this]
theorem u2_row {α : Type} {f : Nat → Nat → α} {o k : Nat} {v : α} {j : Nat} (h : j ≠ o) : u2 f o k v j = f j := by
  funext q
  exact u2_o h
end
section
/-! ===== one instruction of a block ===== -/
section BLK
variable {ro : RO} {Y : MT} {p : Program} {l : Launch} {e : Env} {R : Room} {s : State} {m : MethodId} {args : Array Value} {below : List Frame} {meth : Method} {c : Code} {A : Nat → Prop} {ad : Nat → Nat} {cA : Nat → ClassId} {D : va_G} {H : Heap} {locs : List Loc} {cells slots : Nat} {Q : State → Prop} {ls : Array Slot} {n : Nat} {pc : Nat}
/-- the place where a frame stands, as the machine tells it -/
def Pl (ro : RO) (Y : MT) (p : Program) (l : Launch) (e : Env) (R : Room) (s : State) (m : MethodId) (args : Array Value) (below : List Frame) (meth : Method) (c : Code) (A : Nat → Prop) (ad : Nat → Nat) (cA : Nat → ClassId) (D : va_G) (cells slots : Nat) (Q : State → Prop) (n : Nat) (pc : Nat) (L st : List Value) (M : Mem) : Prop :=
  ∀ (H : Heap) (locs : List Loc) (ls : Array Slot), RelH n M ad cA D A H s → va_S A s.heap H locs → lr ad ls Y.2.2.1 L → W p l e R s m args below meth c H locs cells slots Q (F0 m pc ls (st.map (rv ad)))
theorem ok_ii {f : Int32 → Int32 → Int32} {s1 : ST} {s2 : ST} {c1 : Option Prop} (h : x_ii f s1 = some (s2, c1)) : ∃ x y r, s1.2.2.1 = .int y :: .int x :: r ∧ s2 = (s1.1, s1.2.1, .int (f x y) :: r, s1.2.2.2) ∧ c1 = none := by
  unfold x_ii at h
  split at h
  · rename_i y x r hst
    cases h
    exact ⟨x, y, r, hst, rfl, rfl⟩
  · cases h
theorem ok_iid {f : Int32 → Int32 → Int32} {s1 : ST} {s2 : ST} {c1 : Option Prop} (h : x_iid f s1 = some (s2, c1)) : ∃ x y r, s1.2.2.1 = .int y :: .int x :: r ∧ s2 = (s1.1, s1.2.1, .int (f x y) :: r, s1.2.2.2) ∧ c1 = some (¬ y = 0) := by
  unfold x_iid at h
  split at h
  · rename_i y x r hst
    cases h
    exact ⟨x, y, r, hst, rfl, rfl⟩
  · cases h
theorem ok_ll {f : Int64 → Int64 → Int64} {s1 : ST} {s2 : ST} {c1 : Option Prop} (h : x_ll f s1 = some (s2, c1)) : ∃ x y r, s1.2.2.1 = .long y :: .long x :: r ∧ s2 = (s1.1, s1.2.1, .long (f x y) :: r, s1.2.2.2) ∧ c1 = none := by
  unfold x_ll at h
  split at h
  · rename_i y x r hst
    cases h
    exact ⟨x, y, r, hst, rfl, rfl⟩
  · cases h
theorem ok_lld {f : Int64 → Int64 → Int64} {s1 : ST} {s2 : ST} {c1 : Option Prop} (h : x_lld f s1 = some (s2, c1)) : ∃ x y r, s1.2.2.1 = .long y :: .long x :: r ∧ s2 = (s1.1, s1.2.1, .long (f x y) :: r, s1.2.2.2) ∧ c1 = some (¬ y = 0) := by
  unfold x_lld at h
  split at h
  · rename_i y x r hst
    cases h
    exact ⟨x, y, r, hst, rfl, rfl⟩
  · cases h
theorem ok_i {f : Int32 → Value} {s1 : ST} {s2 : ST} {c1 : Option Prop} (h : x_i f s1 = some (s2, c1)) : ∃ x r, s1.2.2.1 = .int x :: r ∧ s2 = (s1.1, s1.2.1, f x :: r, s1.2.2.2) ∧ c1 = none := by
  unfold x_i at h
  split at h
  · rename_i x r hst
    cases h
    exact ⟨x, r, hst, rfl, rfl⟩
  · cases h
theorem ok_l {f : Int64 → Value} {s1 : ST} {s2 : ST} {c1 : Option Prop} (h : x_l f s1 = some (s2, c1)) : ∃ x r, s1.2.2.1 = .long x :: r ∧ s2 = (s1.1, s1.2.1, f x :: r, s1.2.2.2) ∧ c1 = none := by
  unfold x_l at h
  split at h
  · rename_i x r hst
    cases h
    exact ⟨x, r, hst, rfl, rfl⟩
  · cases h
theorem ok_iload {k : Nat} {s1 : ST} {s2 : ST} {c1 : Option Prop} (h : x_iload k s1 = some (s2, c1)) : ∃ x, clm s1.2.1 k (.int x) ∧ s2 = (s1.1, s1.2.1, .int x :: s1.2.2.1, s1.2.2.2) ∧ c1 = none := by
  unfold x_iload at h
  split at h
  · rename_i x hst
    cases h
    exact ⟨x, ⟨hst, Or.inl ⟨x, rfl⟩⟩, rfl, rfl⟩
  · cases h
theorem ok_aload {k : Nat} {s1 : ST} {s2 : ST} {c1 : Option Prop} (h : x_aload k s1 = some (s2, c1)) : ∃ x, clm s1.2.1 k (.ref x) ∧ s2 = (s1.1, s1.2.1, .ref x :: s1.2.2.1, s1.2.2.2) ∧ c1 = none := by
  unfold x_aload at h
  split at h
  · rename_i x hst
    cases h
    exact ⟨x, ⟨hst, Or.inr (Or.inl ⟨x, rfl⟩)⟩, rfl, rfl⟩
  · cases h
theorem ok_lload {k : Nat} {s1 : ST} {s2 : ST} {c1 : Option Prop} (h : x_lload k s1 = some (s2, c1)) : ∃ x, clm s1.2.1 k (.long x) ∧ s2 = (s1.1, s1.2.1, .long x :: s1.2.2.1, s1.2.2.2) ∧ c1 = none := by
  unfold x_lload at h
  split at h
  · rename_i x hst hst2
    cases h
    exact ⟨x, ⟨hst, Or.inr (Or.inr ⟨⟨x, rfl⟩, hst2⟩)⟩, rfl, rfl⟩
  · cases h
theorem ok_istore {mL k : Nat} {s1 : ST} {s2 : ST} {c1 : Option Prop} (h : x_istore mL k s1 = some (s2, c1)) : ∃ x r, s1.2.2.1 = .int x :: r ∧ k < mL ∧ s2 = (s1.1, lset s1.2.1 k (.int x), r, s1.2.2.2) ∧ c1 = none := by
  unfold x_istore at h
  split at h
  · rename_i x r hst
    split at h
    · rename_i hk
      cases h
      exact ⟨x, r, hst, hk, rfl, rfl⟩
    · cases h
  · cases h
theorem ok_astore {mL k : Nat} {s1 : ST} {s2 : ST} {c1 : Option Prop} (h : x_astore mL k s1 = some (s2, c1)) : ∃ x r, s1.2.2.1 = .ref x :: r ∧ k < mL ∧ s2 = (s1.1, lset s1.2.1 k (.ref x), r, s1.2.2.2) ∧ c1 = none := by
  unfold x_astore at h
  split at h
  · rename_i x r hst
    split at h
    · rename_i hk
      cases h
      exact ⟨x, r, hst, hk, rfl, rfl⟩
    · cases h
  · cases h
theorem ok_lstore {mL k : Nat} {s1 : ST} {s2 : ST} {c1 : Option Prop} (h : x_lstore mL k s1 = some (s2, c1)) : ∃ x r, s1.2.2.1 = .long x :: r ∧ k + 1 < mL ∧ s2 = (s1.1, lset (lset s1.2.1 k (.long x)) (k + 1) .null, r, s1.2.2.2) ∧ c1 = none := by
  unfold x_lstore at h
  split at h
  · rename_i x r hst
    split at h
    · rename_i hk
      cases h
      exact ⟨x, r, hst, hk, rfl, rfl⟩
    · cases h
  · cases h
theorem ok_iinc {mL k : Nat} {z : Int} {s1 : ST} {s2 : ST} {c1 : Option Prop} (h : x_iinc mL k z s1 = some (s2, c1)) : ∃ x, clm s1.2.1 k (.int x) ∧ k < mL ∧ s2 = (s1.1, lset s1.2.1 k (.int (x + c32 z)), s1.2.2.1, s1.2.2.2) ∧ c1 = none := by
  unfold x_iinc at h
  split at h
  · rename_i x hst
    split at h
    · rename_i hk
      cases h
      exact ⟨x, ⟨hst, Or.inl ⟨x, rfl⟩⟩, hk, rfl, rfl⟩
    · cases h
  · cases h
theorem cat1_rv {v : Value} (h : cat1 v = true) : (rv ad v).category = 1 := by
  cases v <;> first | rfl | cases h
theorem own_ok : ∀ c, c < 6 → ∀ k, k < nf c → (TT c k).1 = RN c := by decide +kernel
theorem nar_bool {x : Int32} (h : x = 0 ∨ x = 1) : vp_nar .boolean x = x ∧ narrow .boolean (.int x) = .int x ∧ fits .boolean (.int x) = true := by
  rcases h with rfl | rfl <;> exact ⟨by decide, by decide, by decide⟩
variable {a b : Nat} {i : Instr} {s1 s2 : ST} {c1 : Option Prop}
theorem pl_st (hd : decode Y.2.1 pc = .ok (i, ilen i)) {k : Nat} {v : Value} {L : List Value} {r : List Value} {M : Mem} (hx : p.tables.exec = Jvm.exec) (hb : c.code = Y.2.1) (hR : RelH n M ad cA D A H s) (hS : va_S A s.heap H locs) (hl : lr ad ls Y.2.2.1 L) (hk : k < Y.2.2.1)
    (hi : (i = .istore k ∨ (∃ q : Fin 4, i = .istore_n q ∧ q.val = k)) ∧ (∃ x, v = .int x) ∨ (i = .astore k ∨ (∃ q : Fin 4, i = .astore_n q ∧ q.val = k)) ∧ ∃ x, v = .ref x)
    (kk : Pl ro Y p l e R s m args below meth c A ad cA D cells slots Q n (pc + ilen i) (lset L k v) r M) : W p l e R s m args below meth c H locs cells slots Q (F0 m pc ls ((v :: r).map (rv ad))) := by
  obtain ⟨ls', e', h'⟩ := lr_store1 (v := v) hl hk (by rcases hi with h | h; exact Or.inl h.2; exact Or.inr h.2)
  intro T hT X
  obtain ⟨t, a1, b1⟩ := kk H locs ls' hR hS h' T hT X
  refine ⟨t, ?_, b1⟩
  rcases hi with ⟨rfl | ⟨q, rfl, rfl⟩, x, rfl⟩ | ⟨rfl | ⟨q, rfl, rfl⟩, x, rfl⟩
  all_goals
    simp only [rv] at e'
    simp only [ilen] at hd a1
    simp only [List.map_cons, rv]
    jvm_step X.here [X.here.top, ↓top_set X.here.top, hx, hb, hd, e']
    first | exact a1 | exact ⟨rfl, a1⟩
set_option maxHeartbeats 8000000 in
theorem ex1_ok (F : FC ro Y p R s m args meth c A ad) (hd : decode Y.2.1 pc = .ok (i, ilen i)) (ha : annOk Y.2.2.2.2.2.2 (Y.1.name == "<init>") i a b = true)
    (hex : ex1 ro Y.2.2.1 n i a b s1 = some (s2, c1)) (hc : ∀ q, c1 = some q → q) (hR : RelH n s1.2.2.2 ad cA D A H s) (hS : va_S A s.heap H locs) (hl : lr ad ls Y.2.2.1 s1.2.1)
    (kk : Pl ro Y p l e R s m args below meth c A ad cA D cells slots Q n (pc + ilen i) s2.2.1 s2.2.2.1 s2.2.2.2) :
    W p l e R s m args below meth c H locs cells slots Q (F0 m pc ls (s1.2.2.1.map (rv ad))) := by
  obtain ⟨hx, hb, hml, hown, hgw, hnw, hA, hro, hz, hroom, hini⟩ := F
  have kq := kk H locs ls
  cases i
  case iconst z =>
    cases hex
    exact lv_iconst hx hb hd (c32_eq z) (kk H locs ls hR hS hl)
  case bipush z =>
    cases hex
    exact lv_bipush hx hb hd (of_decide_eq_true ha) (kk H locs ls hR hS hl)
  case sipush z =>
    cases hex
    exact lv_sipush hx hb hd (of_decide_eq_true ha) (kk H locs ls hR hS hl)
  case lconst z =>
    cases hex
    refine lv_lconst (v := if z = 0 then 0 else 1) hx hb hd ?_ (kk H locs ls hR hS hl)
    rcases (show z = 0 ∨ z = 1 by omega) with rfl | rfl <;> rfl
  case iload k =>
    obtain ⟨x, h1, rfl, rfl⟩ := ok_iload hex
    exact lv_iload hx hb hd (hl.at h1) (kk H locs ls hR hS hl)
  case iload_n k =>
    obtain ⟨x, h1, rfl, rfl⟩ := ok_iload hex
    exact lv_iload_n hx hb hd rfl (hl.at h1) (kk H locs ls hR hS hl)
  case aload k =>
    obtain ⟨x, h1, rfl, rfl⟩ := ok_aload hex
    exact lv_aload hx hb hd (hl.at h1) (kk H locs ls hR hS hl)
  case aload_n k =>
    obtain ⟨x, h1, rfl, rfl⟩ := ok_aload hex
    exact lv_aload_n hx hb hd rfl (hl.at h1) (kk H locs ls hR hS hl)
  case lload k =>
    obtain ⟨x, h1, rfl, rfl⟩ := ok_lload hex
    exact lv_lload hx hb hd (hl.at h1) (kk H locs ls hR hS hl)
  case lload_n k =>
    obtain ⟨x, h1, rfl, rfl⟩ := ok_lload hex
    exact lv_lload_n hx hb hd rfl (hl.at h1) (kk H locs ls hR hS hl)
  case istore k =>
    obtain ⟨x, r, h1, h2, rfl, rfl⟩ := ok_istore hex
    rw [h1]
    exact pl_st hd hx hb hR hS hl h2 (Or.inl ⟨Or.inl rfl, x, rfl⟩) kk
  case istore_n k =>
    obtain ⟨x, r, h1, h2, rfl, rfl⟩ := ok_istore hex
    rw [h1]
    exact pl_st hd hx hb hR hS hl h2 (Or.inl ⟨Or.inr ⟨k, rfl, rfl⟩, x, rfl⟩) kk
  case astore k =>
    obtain ⟨x, r, h1, h2, rfl, rfl⟩ := ok_astore hex
    rw [h1]
    exact pl_st hd hx hb hR hS hl h2 (Or.inr ⟨Or.inl rfl, x, rfl⟩) kk
  case astore_n k =>
    obtain ⟨x, r, h1, h2, rfl, rfl⟩ := ok_astore hex
    rw [h1]
    exact pl_st hd hx hb hR hS hl h2 (Or.inr ⟨Or.inr ⟨k, rfl, rfl⟩, x, rfl⟩) kk
  case lstore k =>
    obtain ⟨x, r, h1, h2, rfl, rfl⟩ := ok_lstore hex
    rw [h1]
    obtain ⟨ls', e', h'⟩ := lr_store2 (x := x) hl h2
    intro T hT X
    obtain ⟨t, a1, b1⟩ := kk H locs ls' hR hS h' T hT X
    refine ⟨t, ?_, b1⟩
    simp only [ilen] at hd a1
    simp only [List.map_cons, rv]
    jvm_step X.here [X.here.top, ↓top_set X.here.top, hx, hb, hd, e']
    exact a1
  case lstore_n k =>
    obtain ⟨x, r, h1, h2, rfl, rfl⟩ := ok_lstore hex
    rw [h1]
    obtain ⟨ls', e', h'⟩ := lr_store2 (x := x) hl h2
    intro T hT X
    obtain ⟨t, a1, b1⟩ := kk H locs ls' hR hS h' T hT X
    refine ⟨t, ?_, b1⟩
    simp only [ilen] at hd a1
    simp only [List.map_cons, rv]
    jvm_step X.here [X.here.top, ↓top_set X.here.top, hx, hb, hd, e']
    exact a1
  case iinc k z =>
    obtain ⟨x, h1, h2, rfl, rfl⟩ := ok_iinc hex
    have hg := hl.at h1
    obtain ⟨ls', e', h'⟩ := lr_store1 (v := .int (x + c32 z)) hl h2 (Or.inl ⟨_, rfl⟩)
    simp only [rv] at e' hg
    rw [← c32_eq] at e'
    intro T hT X
    obtain ⟨t, a1, b1⟩ := kk H locs ls' hR hS h' T hT X
    refine ⟨t, ?_, b1⟩
    simp only [ilen] at hd a1
    jvm_step X.here [X.here.top, ↓top_set X.here.top, hx, hb, hd, hg, e']
    exact a1
  case iadd =>
    obtain ⟨x, y, r, h1, rfl, rfl⟩ := ok_ii hex
    rw [h1]
    exact lv_iadd hx hb hd (kk H locs ls hR hS hl)
  case isub =>
    obtain ⟨x, y, r, h1, rfl, rfl⟩ := ok_ii hex
    rw [h1]
    exact lv_isub hx hb hd (kk H locs ls hR hS hl)
  case imul =>
    obtain ⟨x, y, r, h1, rfl, rfl⟩ := ok_ii hex
    rw [h1]
    exact lv_imul hx hb hd (kk H locs ls hR hS hl)
  case iand =>
    obtain ⟨x, y, r, h1, rfl, rfl⟩ := ok_ii hex
    rw [h1]
    exact lv_iand hx hb hd (kk H locs ls hR hS hl)
  case ior =>
    obtain ⟨x, y, r, h1, rfl, rfl⟩ := ok_ii hex
    rw [h1]
    exact lv_ior hx hb hd (kk H locs ls hR hS hl)
  case ixor =>
    obtain ⟨x, y, r, h1, rfl, rfl⟩ := ok_ii hex
    rw [h1]
    exact lv_ixor hx hb hd (kk H locs ls hR hS hl)
  case ishl =>
    obtain ⟨x, y, r, h1, rfl, rfl⟩ := ok_ii hex
    rw [h1]
    exact lv_ishl hx hb hd (kk H locs ls hR hS hl)
  case ishr =>
    obtain ⟨x, y, r, h1, rfl, rfl⟩ := ok_ii hex
    rw [h1]
    exact lv_ishr hx hb hd (kk H locs ls hR hS hl)
  case iushr =>
    obtain ⟨x, y, r, h1, rfl, rfl⟩ := ok_ii hex
    rw [h1]
    exact lv_iushr hx hb hd rfl (kk H locs ls hR hS hl)
  case l2i =>
    obtain ⟨x, r, h1, rfl, rfl⟩ := ok_l hex
    rw [h1]
    exact lv_l2i hx hb hd rfl (kk H locs ls hR hS hl)
  case ldc2_w x =>
    cases hex
    exact lv_ldc2 hx hb hown (hgw _ (lc_spec ha)) hd (kk H locs ls hR hS hl)
  case idiv =>
    obtain ⟨x, y, r, h1, rfl, rfl⟩ := ok_iid hex
    rw [h1]
    exact lv_idiv hx hb hd (hc _ rfl) (kk H locs ls hR hS hl)
  case irem =>
    obtain ⟨x, y, r, h1, rfl, rfl⟩ := ok_iid hex
    rw [h1]
    exact lv_irem hx hb hd (hc _ rfl) (kk H locs ls hR hS hl)
  case ineg =>
    obtain ⟨x, r, h1, rfl, rfl⟩ := ok_i hex
    rw [h1]
    exact lv_ineg hx hb hd (kk H locs ls hR hS hl)
  case i2l =>
    obtain ⟨x, r, h1, rfl, rfl⟩ := ok_i hex
    rw [h1]
    exact lv_i2l hx hb hd rfl (kk H locs ls hR hS hl)
  case ladd =>
    obtain ⟨x, y, r, h1, rfl, rfl⟩ := ok_ll hex
    rw [h1]
    exact lv_ladd hx hb hd (kk H locs ls hR hS hl)
  case lsub =>
    obtain ⟨x, y, r, h1, rfl, rfl⟩ := ok_ll hex
    rw [h1]
    exact lv_lsub hx hb hd (kk H locs ls hR hS hl)
  case lmul =>
    obtain ⟨x, y, r, h1, rfl, rfl⟩ := ok_ll hex
    rw [h1]
    exact lv_lmul hx hb hd (kk H locs ls hR hS hl)
  case ldiv =>
    obtain ⟨x, y, r, h1, rfl, rfl⟩ := ok_lld hex
    rw [h1]
    exact lv_ldiv hx hb hd (hc _ rfl) (kk H locs ls hR hS hl)
  case lrem =>
    obtain ⟨x, y, r, h1, rfl, rfl⟩ := ok_lld hex
    rw [h1]
    exact lv_lrem hx hb hd (hc _ rfl) (kk H locs ls hR hS hl)
  case lneg =>
    obtain ⟨x, r, h1, rfl, rfl⟩ := ok_l hex
    rw [h1]
    exact lv_lneg hx hb hd (kk H locs ls hR hS hl)
  case lcmp =>
    simp only [ex1, x_lcmp] at hex
    split at hex
    · rename_i y x r h1
      cases hex
      rw [h1]
      exact W.lcmp hx hb hd (kk H locs ls hR hS hl)
    · cases hex
  case dup =>
    simp only [ex1, x_dup] at hex
    split at hex
    · rename_i v r h1
      split at hex
      · rename_i hv
        cases hex
        rw [h1]
        exact lv_dup hx hb hd (cat1_rv hv) (kk H locs ls hR hS hl)
      · cases hex
    · cases hex
  case dup_x1 =>
    simp only [ex1, x_dupx1] at hex
    split at hex
    · rename_i v w r h1
      split at hex
      · rename_i hv
        rw [Bool.and_eq_true] at hv
        cases hex
        rw [h1]
        exact lv_dup_x1 hx hb hd (cat1_rv hv.1) (cat1_rv hv.2) (kk H locs ls hR hS hl)
      · cases hex
    · cases hex
  case dup2 =>
    simp only [ex1, x_dup2] at hex
    split at hex
    · rename_i v w r h1
      split at hex
      · rename_i hv
        rw [Bool.and_eq_true] at hv
        cases hex
        rw [h1]
        exact lv_dup2_11 hx hb hd (cat1_rv hv.1) (cat1_rv hv.2) (kk H locs ls hR hS hl)
      · cases hex
    · cases hex
  case getstatic x =>
    cases hex
    obtain ⟨hw, h3⟩ := sl_spec ha
    rcases hw with hw | hw
    · exact va_gets hx hb (hz a h3) hS hown (hgw _ hw) (fun _ h => h) hd (kk H locs ls hR hS hl)
    · exact va_getsN hx hb (hz a h3) hS hown (va_Nw.use rfl (hnw _ hw)) (fun _ h => h) hd (kk H locs ls hR hS hl)
  case getfield x =>
    simp only [ex1, x_get] at hex
    split at hex
    · rename_i o r h1
      split at hex
      · rename_i ci hsh
        split at hex
        · rename_i hci
          obtain ⟨rfl, hon⟩ := hci
          cases hex
          rw [h1]
          obtain ⟨hw, h7, hbn⟩ := fl_spec ha
          have hent : (wl n ad cA s1.2.2.2)[o]? = some (ad o, .inr (ci, (List.range (nf ci)).map (fval ad s1.2.2.2 ci o))) := by
            rw [wl_at hon, went, hsh]
          have hv : ((List.range (nf ci)).map (fval ad s1.2.2.2 ci o))[b]? = some (rv ad (rdf s1.2.2.2 ci o b)) := by
            simp [hbn, fval]
          rcases hw with hw | hw
          · exact va_get hx hb hgw (lay_ok ci h7) hown hR.2.2.1 hR.1 o hent (cl_at ci h7) b hbn (hgw _ hw) (fun x h => h) hv hd (kk H locs ls hR hS hl)
          · exact va_getN hx hb hgw (lay_ok ci h7) hown hR.2.2.1 hR.1 o hent (cl_at ci h7) b hbn (va_Nw.use rfl (hnw _ hw)) (fun x h => h) hv hd (kk H locs ls hR hS hl)
        · cases hex
      · cases hex
    · cases hex
  case putfield x =>
    simp only [ex1, x_put] at hex
    split at hex
    · rename_i v o r h1
      split at hex
      · rename_i ci hsh
        split at hex
        · rename_i hci
          obtain ⟨rfl, hon⟩ := hci
          simp only [annOk, Bool.and_eq_true] at ha
          obtain ⟨hfl, hfin⟩ := ha
          obtain ⟨hw, h7, hbn⟩ := fl_spec2 hfl
          have hent : (wl n ad cA s1.2.2.2)[o]? = some (ad o, .inr (ci, (List.range (nf ci)).map (fval ad s1.2.2.2 ci o))) := by
            rw [wl_at hon, went, hsh]
          have hlen : b < ((List.range (nf ci)).map (fval ad s1.2.2.2 ci o)).length := by simpa using hbn
          obtain ⟨t0, t1, t3, t2⟩ := fty_ty ci h7 b hbn
          have key : ∀ (M' : Mem) (ty : FieldType), parseFieldDescriptor (TT ci b).2.2.1 = some ty → narrow ty (rv ad v) = rv ad v → fits ty (rv ad v) = true → rdf M' ci o b = v → (∀ j, j ≠ b → rdf M' ci o j = rdf s1.2.2.2 ci o j) →
              (∀ j, j ≠ o → M'.1 j = s1.2.2.2.1 j ∧ M'.2.1 j = s1.2.2.2.2.1 j ∧ M'.2.2 j = s1.2.2.2.2.2 j) → s2 = (s1.1, s1.2.1, r, M') →
              W p l e R s m args below meth c H locs cells slots Q (F0 m pc ls (s1.2.2.1.map (rv ad))) := by
            intro M' ty e1 e2 e3 e4 e5 e6 e7
            subst e7
            rw [h1]
            have hset : (wl n ad cA s1.2.2.2).set o (ad o, .inr (ci, ((List.range (nf ci)).map (fval ad s1.2.2.2 ci o)).set b (rv ad v))) = wl n ad cA M' := by
              rw [fval_set e4 e5]
              refine wl_set ?_ (fun j hj => went_o (e6 j hj).1 (e6 j hj).2.1 (e6 j hj).2.2)
              rw [went, hsh]
            by_cases hf : (TT ci b).2.2.2 = true
            · have hf2 : ((Y.1.name == "<init>") && ci == Y.2.2.2.2.2.2) = true := by
                rw [hf] at hfin
                simpa using hfin
              rw [Bool.and_eq_true] at hf2
              have hcn : ci = Y.2.2.2.2.2.2 := by simpa using hf2.2
              refine va_putF hx hb hgw (lay_ok ci h7) (tyT ci) (tyT_ok ci h7) (nm_ok ci h7) hown hR.2.2.1 hR.1 hR.2.1 hS o hent (cl_at ci h7) b hbn (hgw _ hw) (fun x h => h) hf (hini hf2.1) (by rw [own_ok ci h7 b hbn, hcn]) e1 e2 e3 hlen hd (fun H1 locs1 g1 g2 g3 => ?_)
              rw [hset] at g1 g2
              exact kk H1 locs1 ls ⟨g1, g2, hR.2.2⟩ g3 hl
            · have hf' : (TT ci b).2.2.2 = false := by simpa using hf
              refine va_put hx hb hgw (lay_ok ci h7) (tyT ci) (tyT_ok ci h7) (nm_ok ci h7) hown hR.2.2.1 hR.1 hR.2.1 hS o hent (cl_at ci h7) b hbn (hgw _ hw) (fun x h => h) hf' e1 e2 e3 hlen hd (fun H1 locs1 g1 g2 g3 => ?_)
              rw [hset] at g1 g2
              exact kk H1 locs1 ls ⟨g1, g2, hR.2.2⟩ g3 hl
          split at hex
          · rename_i x hft
            cases hex
            refine key _ .int (t0 hft) rfl rfl ?_ ?_ ?_ rfl
            · simp only [rdf, hft]; exact congrArg Value.int u2_s
            · intro j hj
              have : u2 s1.2.2.2.1 o b x o j = s1.2.2.2.1 o j := u2_k hj
              simp only [rdf, this]
            · intro j hj
              exact ⟨u2_row hj, rfl, rfl⟩
          · rename_i x hft
            cases hex
            have hx01 := hc _ rfl
            refine key _ .boolean (t3 hft) (nar_bool hx01).2.1 (nar_bool hx01).2.2 ?_ ?_ ?_ rfl
            · simp only [rdf, hft]; exact congrArg Value.int u2_s
            · intro j hj
              have : u2 s1.2.2.2.1 o b x o j = s1.2.2.2.1 o j := u2_k hj
              simp only [rdf, this]
            · intro j hj
              exact ⟨u2_row hj, rfl, rfl⟩
          · rename_i x hft
            cases hex
            refine key _ .long (t1 hft) rfl rfl ?_ ?_ ?_ rfl
            · simp only [rdf, hft]; exact congrArg Value.long u2_s
            · intro j hj
              have : u2 s1.2.2.2.2.1 o b x o j = s1.2.2.2.2.1 o j := u2_k hj
              simp only [rdf, this]
            · intro j hj
              exact ⟨rfl, u2_row hj, rfl⟩
          · rename_i x hft
            cases hex
            obtain ⟨ty, g1, g2, g3⟩ := t2 hft
            refine key _ ty g1 (g3 _) (g2 _) ?_ ?_ ?_ rfl
            · simp only [rdf, hft]; exact u2_s
            · intro j hj
              have : u2 s1.2.2.2.2.2 o b (.ref x) o j = s1.2.2.2.2.2 o j := u2_k hj
              simp only [rdf, this]
            · intro j hj
              exact ⟨rfl, rfl, u2_row hj⟩
          · cases hex
        · cases hex
      · cases hex
    · cases hex
  case iaload =>
    simp only [ex1, x_ald] at hex
    split at hex
    · rename_i i o r h hs h1 h0
      split at hex
      · rename_i N f hrf
        cases hex
        obtain ⟨e1, e2⟩ := hc _ rfl
        obtain ⟨hN, -, hT⟩ := hro _ _ _ hrf
        obtain ⟨e3, e4⟩ := vpin_of e1 e2 hN
        rw [h1]
        exact va_ti hx hb hT hS e3 (v := .int (f h)) (by rw [e4]) hd (kk H locs ls hR hS hl)
      · split at hex
        · rename_i b N hsh
          split at hex
          · rename_i hbo
            obtain ⟨rfl, hon⟩ := hbo
            cases hex
            obtain ⟨e1, e2⟩ := hc _ rfl
            obtain ⟨e3, e4⟩ := vpin_of e1 e2 (sh_small _ _ _ hsh)
            have hent : (wl n ad cA s1.2.2.2)[o]? = some (ad o, .inl (cA o, N, .inl (s1.2.2.2.1 o))) := by
              rw [wl_at hon, went, hsh]
            rw [h1]
            refine va_iald hx hb (hR.kty hon hsh) hR.1 o 0 hent rfl e3 hd ?_
            rw [e4]
            exact kk H locs ls hR hS hl
          · cases hex
        · cases hex
    · cases hex
  case baload =>
    simp only [ex1, x_ald] at hex
    split at hex
    · rename_i i o r h hs h1 h0
      split at hex
      · rename_i N f hrf
        cases hex
      · split at hex
        · rename_i b N hsh
          split at hex
          · rename_i hbo
            obtain ⟨rfl, hon⟩ := hbo
            cases hex
            obtain ⟨e1, e2⟩ := hc _ rfl
            obtain ⟨e3, e4⟩ := vpin_of e1 e2 (sh_small _ _ _ hsh)
            have hent : (wl n ad cA s1.2.2.2)[o]? = some (ad o, .inl (cA o, N, .inl (s1.2.2.2.1 o))) := by
              rw [wl_at hon, went, hsh]
            rw [h1]
            refine va_zald hx hb (hR.kty hon hsh) hR.1 o 0 hent rfl e3 hd ?_
            rw [e4]
            exact kk H locs ls hR hS hl
          · cases hex
        · cases hex
    · cases hex
  case iastore =>
    simp only [ex1, x_ast] at hex
    split at hex
    · rename_i x i o r h hs h1 h0
      split at hex
      · rename_i b N hsh
        split at hex
        · rename_i hbo
          obtain ⟨rfl, hon⟩ := hbo
          cases hex
          obtain ⟨e1, e2⟩ := hc _ rfl
          obtain ⟨e3, e4⟩ := vpin_of e1 e2 (sh_small _ _ _ hsh)
          have hent : (wl n ad cA s1.2.2.2)[o]? = some (ad o, .inl (cA o, N, .inl (s1.2.2.2.1 o))) := by
            rw [wl_at hon, went, hsh]
          rw [h1]
          refine va_iast hx hb (hR.kty hon hsh) hR.1 hR.2.1 hS o 0 hent rfl e3 hd (fun H1 locs1 g1 g2 g3 => ?_)
          have hset : (wl n ad cA s1.2.2.2).set o (ad o, .inl (cA o, N, .inl (upd (s1.2.2.2.1 o) h x))) = wl n ad cA (u2 s1.2.2.2.1 o h x, s1.2.2.2.2) := by
            refine wl_set ?_ (fun j hj => went_o (u2_row hj) rfl rfl)
            rw [went, hsh]
            have : u2 s1.2.2.2.1 o h x o = upd (s1.2.2.2.1 o) h x := by
              funext j
              by_cases hj : j = h
              · subst hj
                rw [u2_s, pk_us]
              · rw [u2_k hj, pk_un hj]
            simp only [this]
          rw [e4, hset] at g1 g2
          exact kk H1 locs1 ls ⟨g1, g2, hR.2.2⟩ g3 hl
        · cases hex
      · cases hex
    · cases hex
  case bastore =>
    simp only [ex1, x_ast] at hex
    split at hex
    · rename_i x i o r h hs h1 h0
      split at hex
      · rename_i b N hsh
        split at hex
        · rename_i hbo
          obtain ⟨rfl, hon⟩ := hbo
          cases hex
          obtain ⟨e1, e2, e5⟩ := hc _ rfl
          obtain ⟨e3, e4⟩ := vpin_of e1 e2 (sh_small _ _ _ hsh)
          have hent : (wl n ad cA s1.2.2.2)[o]? = some (ad o, .inl (cA o, N, .inl (s1.2.2.2.1 o))) := by
            rw [wl_at hon, went, hsh]
          rw [h1]
          refine va_zast hx hb (hR.kty hon hsh) hR.1 hR.2.1 hS o 0 hent rfl e3 hd (fun H1 locs1 g1 g2 g3 => ?_)
          have hset : (wl n ad cA s1.2.2.2).set o (ad o, .inl (cA o, N, .inl (upd (s1.2.2.2.1 o) h x))) = wl n ad cA (u2 s1.2.2.2.1 o h x, s1.2.2.2.2) := by
            refine wl_set ?_ (fun j hj => went_o (u2_row hj) rfl rfl)
            rw [went, hsh]
            have : u2 s1.2.2.2.1 o h x o = upd (s1.2.2.2.1 o) h x := by
              funext j
              by_cases hj : j = h
              · subst hj
                rw [u2_s, pk_us]
              · rw [u2_k hj, pk_un hj]
            simp only [this]
          rw [e4, (nar_bool e5).1, hset] at g1 g2
          exact kk H1 locs1 ls ⟨g1, g2, hR.2.2⟩ g3 hl
        · cases hex
      · cases hex
    · cases hex
  case arraylength =>
    simp only [ex1, x_alen] at hex
    split at hex
    · rename_i o r h1
      split at hex
      · rename_i N f hrf
        cases hex
        obtain ⟨hN, -, hT⟩ := hro _ _ _ hrf
        rw [h1]
        exact va_tlen hx hb hT hS (v := nI N) rfl hd (kk H locs ls hR hS hl)
      · split at hex
        · rename_i b N hsh
          split at hex
          · rename_i hon
            cases hex
            have hent : (wl n ad cA s1.2.2.2)[o]? = some (ad o, .inl (cA o, N, .inl (s1.2.2.2.1 o))) := by
              rw [wl_at hon, went, hsh]
            rw [h1]
            exact va_alen hx hb (hR.kty hon hsh) hR.1 o 0 hent rfl (v := nI N) rfl hd (kk H locs ls hR hS hl)
          · cases hex
        · cases hex
    · cases hex
  all_goals cases hex
end BLK
end
section
/-! ===== a whole method over the machine ===== -/
def ssz1 (i : Nat) : Nat := match shg SHL i with
  | some (.inl c) => nf c
  | some (.inr (_, N)) => N
  | none => match shg SHL (i - 27) with
    | some (.inl c) => nf c
    | some (.inr (_, N)) => N
    | none => 0
def ssz : Nat → Nat
  | 0 => 0
  | n + 1 => ssz n + ssz1 n
def vst (v : Option Value) : List Value := match v with
  | none => []
  | some v => [v]
def okret (Y : MT) (v : Option Value) : Prop := (v = none ∧ Y.2.2.2.1 = none) ∨ (∃ x, v = some (.int x) ∧ (Y.2.2.2.1 = some .int ∨ (Y.2.2.2.1 = some .boolean ∧ (x = 0 ∨ x = 1)))) ∨ ∃ x, v = some (.long x) ∧ Y.2.2.2.1 = some .long
def retI (v : Option Value) : Instr := match v with
  | none => .return_
  | some (.long _) => .lreturn
  | _ => .ireturn
def agr (n n' : Nat) (ad ad' : Nat → Nat) : Prop := (n' = n → ad' = ad) ∧ ∀ i, (i < n ∨ 39 ≤ i) → ad' i = ad i
/-- from this place the method comes to its end, with an answer and a memory of that kind, n' objects made by then -/
def Go (l : Launch) (ro : RO) (Y : MT) (n : Nat) (M : Mem) (pc : Nat) (L st : List Value) (n' : Nat) (Post : Option Value → Mem → Prop) : Prop :=
  ∀ (p : Program) (e : Env) (R : Room) (s : State) (m : MethodId) (args : Array Value) (below : List Frame) (meth : Method) (c : Code) (A : Nat → Prop) (ad : Nat → Nat) (cA : Nat → ClassId) (D : va_G) (cells slots : Nat) (Q : State → Prop),
    FC ro Y p R s m args meth c A ad → n ≤ 39 → cells + n' ≤ R.cells + n → slots + ssz n' ≤ R.slots + ssz n →
    (∀ (v : Option Value) (M' : Mem) (ad' : Nat → Nat) (cA' : Nat → ClassId) (H' : Heap) (locs' : List Loc) (ls' : Array Slot) (pc' : Nat) (cells' slots' : Nat), Post v M' → okret Y v → decode Y.2.1 pc' = .ok (retI v, 1) → agr n n' ad ad' → (n' ≤ 39 → RelH n' M' ad' cA' D A H' s) → va_S A s.heap H' locs' → cells' + n = cells + n' → slots' + ssz n = slots + ssz n' →
      W p l e R s m args below meth c H' locs' cells' slots' Q (F0 m pc' ls' (vst v))) →
    Pl ro Y p l e R s m args below meth c A ad cA D cells slots Q n pc L st M
section GO
variable {l : Launch} {ro : RO} {Y : MT} {n n' : Nat} {M : Mem} {pc : Nat} {L st : List Value} {Post : Option Value → Mem → Prop}
theorem Go.mono {Post2 : Option Value → Mem → Prop} (h : Go l ro Y n M pc L st n' Post) (hp : ∀ v M', Post v M' → Post2 v M') : Go l ro Y n M pc L st n' Post2 :=
  fun p e R s m args below meth c A ad cA D cells slots Q F hn hc hs K => h p e R s m args below meth c A ad cA D cells slots Q F hn hc hs fun v M' ad' cA' H' locs' ls' pc' cells' slots' h1 => K v M' ad' cA' H' locs' ls' pc' cells' slots' (hp v M' h1)
theorem pl_blk {p : Program} {e : Env} {R : Room} {s : State} {m : MethodId} {args : Array Value} {below : List Frame} {meth : Method} {c : Code} {A : Nat → Prop} {ad : Nat → Nat} {cA : Nat → ClassId} {D : va_G} {cells slots : Nat} {Q : State → Prop} (F : FC ro Y p R s m args meth c A ad) :
    ∀ (b : Blk) (s1 s2 : ST) (C : Prop) (pc pc2 : Nat), codeAt Y.2.1 Y.2.2.2.2.2.2 (Y.1.name == "<init>") pc b = some pc2 → exL ro Y.2.2.1 n b s1 = some (s2, C) → C → Pl ro Y p l e R s m args below meth c A ad cA D cells slots Q n pc2 s2.2.1 s2.2.2.1 s2.2.2.2 → Pl ro Y p l e R s m args below meth c A ad cA D cells slots Q n pc s1.2.1 s1.2.2.1 s1.2.2.2 := by
  intro b
  induction b with
  | nil =>
    intro s1 s2 C pc pc2 h1 h2 hC hk
    cases h1
    cases h2
    exact hk
  | cons i r ih =>
    intro s1 s2 C pc pc2 h1 h2 hC hk
    simp only [codeAt] at h1
    split at h1
    · rename_i hok
      rw [Bool.and_eq_true] at hok
      simp only [exL] at h2
      split at h2
      · cases h2
      · rename_i s3 c1 hex
        split at h2
        · cases h2
        · rename_i s4 c2 hex2
          cases h2
          have hc12 : (∀ q, c1 = some q → q) ∧ c2 := by
            cases c1 with
            | none => exact ⟨fun q h => (by cases h), hC⟩
            | some q => exact ⟨fun q2 h => (by cases h; exact hC.1), hC.2⟩
          have := ih s3 s2 c2 _ pc2 h1 hex2 hc12.2 hk
          intro H locs ls hR hS hl
          exact ex1_ok F (okd_eq hok.1) hok.2 hex hc12.1 hR hS hl this
    · cases h1
theorem go_blk (b : Blk) (hs : List Nat) {pc2 : Nat} {L2 st2 : List Value} {M2 : Mem} {hs2 : List Nat} {C : Prop} (h1 : codeAt Y.2.1 Y.2.2.2.2.2.2 (Y.1.name == "<init>") pc b = some pc2) (h2 : exL ro Y.2.2.1 n b (hs, L, st, M) = some ((hs2, L2, st2, M2), C)) (hC : C) (h : Go l ro Y n M2 pc2 L2 st2 n' Post) : Go l ro Y n M pc L st n' Post :=
  fun p e R s m args below meth c A ad cA D cells slots Q F hn hc hsl K => pl_blk F b (hs, L, st, M) (hs2, L2, st2, M2) C pc pc2 h1 h2 hC (h p e R s m args below meth c A ad cA D cells slots Q F hn hc hsl K)
def tk (c : ClassFile.Cond) (x y : Int32) : Prop := match c with
  | .eq => x = y
  | .ne => ¬ x = y
  | .lt => x < y
  | .ge => y ≤ x
  | .gt => y < x
  | .le => x ≤ y
def ntk (c : ClassFile.Cond) (x y : Int32) : Prop := match c with
  | .eq => ¬ x = y
  | .ne => x = y
  | .lt => ¬ x < y
  | .ge => ¬ y ≤ x
  | .gt => ¬ y < x
  | .le => ¬ x ≤ y
theorem go_cmp {cnd : ClassFile.Cond} {off : Int} {x y : Int32} (tgt : Nat) (hd : okd Y.2.1 pc (.if_icmp cnd off) 3 = true) (ht : (pc : Int) + off = (tgt : Int)) (kt : tk cnd x y → Go l ro Y n M tgt L st n' Post) (kf : ntk cnd x y → Go l ro Y n M (pc + 3) L st n' Post) : Go l ro Y n M pc L (.int y :: .int x :: st) n' Post := by
  intro p e R s m args below meth c A ad cA D cells slots Q F hn hc hs K H locs ls hR hS hl
  have hd := okd_eq hd
  have k1 := fun q => kt q p e R s m args below meth c A ad cA D cells slots Q F hn hc hs K H locs ls hR hS hl
  have k2 := fun q => kf q p e R s m args below meth c A ad cA D cells slots Q F hn hc hs K H locs ls hR hS hl
  cases cnd
  · exact lv_icmp_eq F.1 F.2.1 hd ht k1 k2
  · exact lv_icmp_ne F.1 F.2.1 hd ht k1 k2
  · exact lv_icmp_lt F.1 F.2.1 hd ht k1 k2
  · exact lv_icmp_ge F.1 F.2.1 hd ht k1 k2
  · exact lv_icmp_gt F.1 F.2.1 hd ht k1 k2
  · exact lv_icmp_le F.1 F.2.1 hd ht k1 k2
theorem go_ifz {cnd : ClassFile.Cond} {off : Int} {x : Int32} (tgt : Nat) (hd : okd Y.2.1 pc (.ifCond cnd off) 3 = true) (ht : (pc : Int) + off = (tgt : Int)) (kt : tk cnd x 0 → Go l ro Y n M tgt L st n' Post) (kf : ntk cnd x 0 → Go l ro Y n M (pc + 3) L st n' Post) : Go l ro Y n M pc L (.int x :: st) n' Post := by
  intro p e R s m args below meth c A ad cA D cells slots Q F hn hc hs K H locs ls hR hS hl
  have hd := okd_eq hd
  have k1 := fun q => kt q p e R s m args below meth c A ad cA D cells slots Q F hn hc hs K H locs ls hR hS hl
  have k2 := fun q => kf q p e R s m args below meth c A ad cA D cells slots Q F hn hc hs K H locs ls hR hS hl
  cases cnd
  · exact lv_if_eq F.1 F.2.1 hd ht k1 k2
  · exact lv_if_ne F.1 F.2.1 hd ht k1 k2
  · exact lv_if_lt F.1 F.2.1 hd ht k1 k2
  · exact lv_if_ge F.1 F.2.1 hd ht k1 k2
  · exact lv_if_gt F.1 F.2.1 hd ht k1 k2
  · exact lv_if_le F.1 F.2.1 hd ht k1 k2
theorem go_goto {off : Int} (tgt : Nat) (hd : okd Y.2.1 pc (.goto off) 3 = true) (ht : (pc : Int) + off = (tgt : Int)) (k : Go l ro Y n M tgt L st n' Post) : Go l ro Y n M pc L st n' Post := by
  intro p e R s m args below meth c A ad cA D cells slots Q F hn hc hs K H locs ls hR hS hl
  exact lv_goto F.1 F.2.1 (okd_eq hd) ht (k p e R s m args below meth c A ad cA D cells slots Q F hn hc hs K H locs ls hR hS hl)
theorem go_ret (v : Option Value) (hd : okd Y.2.1 pc (retI v) 1 = true) (hok : okret Y v) (hp : Post v M) : Go l ro Y n M pc L (vst v) n Post := by
  intro p e R s m args below meth c A ad cA D cells slots Q F hn hc hs K H locs ls hR hS hl
  have e : (vst v).map (rv ad) = vst v := by
    rcases hok with ⟨rfl, -⟩ | ⟨x, rfl, -⟩ | ⟨x, rfl, -⟩ <;> rfl
  rw [e]
  exact K v M ad cA H locs ls pc cells slots hp hok (okd_eq hd) ⟨fun _ => rfl, fun _ _ => rfl⟩ (fun _ => hR) hS rfl rfl
theorem go_retv (hd : okd Y.2.1 pc .return_ 1 = true) (hr : Y.2.2.2.1 = none) (hp : Post none M) : Go l ro Y n M pc L [] n Post := go_ret none hd (Or.inl ⟨rfl, hr⟩) hp
theorem go_reti {x : Int32} (hd : okd Y.2.1 pc .ireturn 1 = true) (hr : Y.2.2.2.1 = some .int) (hp : Post (some (.int x)) M) : Go l ro Y n M pc L [.int x] n Post := go_ret (some (.int x)) hd (Or.inr (Or.inl ⟨x, rfl, Or.inl hr⟩)) hp
theorem go_retz {x : Int32} (hd : okd Y.2.1 pc .ireturn 1 = true) (hr : Y.2.2.2.1 = some .boolean) (hx : x = 0 ∨ x = 1) (hp : Post (some (.int x)) M) : Go l ro Y n M pc L [.int x] n Post := go_ret (some (.int x)) hd (Or.inr (Or.inl ⟨x, rfl, Or.inr ⟨hr, hx⟩⟩)) hp
theorem go_retl {x : Int64} (hd : okd Y.2.1 pc .lreturn 1 = true) (hr : Y.2.2.2.1 = some .long) (hp : Post (some (.long x)) M) : Go l ro Y n M pc L [.long x] n Post := go_ret (some (.long x)) hd (Or.inr (Or.inr ⟨x, rfl, hr⟩)) hp
end GO
/-! ===== a method's contract ===== -/
def AF (n : Nat) (ad : Nat → Nat) (sz : Nat) : Nat → Prop := fun q => (∃ i, i < n ∧ q = ad i) ∨ sz ≤ q
def Yw (Y : MT) : List Cond := Cond.code Y.1 Y.2.1 Y.2.2.1 Y.2.2.2.1 :: GW
def PreU (ro : RO) (n : Nat) (M : Mem) (ad : Nat → Nat) (cA : Nat → ClassId) (D : va_G) (sz : Nat) (U : State) : Prop :=
  U.heap.size = sz ∧ RelH n M ad cA D (AF n ad sz) U.heap U ∧ (∀ w ∈ NW, va_Nw w U) ∧ ROok ro ad (AF n ad sz) U ∧ Zok ad (AF n ad sz) U
def QSem (n : Nat) (ad : Nat → Nat) (D : va_G) (sz n' : Nat) (Post : Option Value → Mem → Prop) : Array Value → State → Outcome → State → Prop := fun _ st oc t =>
  (∃ (v : Option Value) (M' : Mem) (ad' : Nat → Nat) (cA' : Nat → ClassId), oc = .returned v ∧ Post v M' ∧ (v = none ∨ (∃ x, v = some (.int x)) ∨ ∃ x, v = some (.long x)) ∧ agr n n' ad ad' ∧ RelH n' M' ad' cA' D (AF n ad sz) t.heap t) ∧ va_F (AF n ad sz) st t
def SemR (l : Launch) (ro : RO) (Y : MT) (as : List Value) (n : Nat) (M : Mem) (n' : Nat) (Post : Option Value → Mem → Prop) : Prop :=
  ∀ (ad : Nat → Nat) (cA : Nat → ClassId) (D : va_G) (sz : Nat), Met l Y.1 (Yw Y) ({ frames := Y.2.2.2.2.1, cells := n' - n, slots := ssz n' - ssz n, locals := Y.2.2.2.2.2.1 }) (va_Pc (as.map (rv ad)) (PreU ro n M ad cA D sz)) (QSem n ad D sz n' Post) (n' - n) (ssz n' - ssz n) (AF n ad sz)
abbrev Sem (l : Launch) (Y : MT) (as : List Value) (n : Nat) (M : Mem) (n' : Nat) (Post : Option Value → Mem → Prop) : Prop := SemR l ro0 Y as n M n' Post
theorem SemR.mono {l : Launch} {ro : RO} {Y : MT} {as : List Value} {n n' : Nat} {M : Mem} {Post Post2 : Option Value → Mem → Prop} (h : SemR l ro Y as n M n' Post) (hp : ∀ v M', Post v M' → Post2 v M') : SemR l ro Y as n M n' Post2 := by
  intro ad cA D sz p e ha hc hk s m args below hf happ hP hK
  obtain ⟨t, o, h1, h2, h3, ⟨h4, h4b⟩, h5⟩ := h ad cA D sz p e ha hc hk s m args below hf happ hP hK
  obtain ⟨v, M', ad', cA', g1, g2, g3⟩ := h4
  exact ⟨t, o, h1, h2, h3, ⟨⟨v, M', ad', cA', g1, hp v M' g2, g3⟩, h4b⟩, h5⟩
end
section
/-! ===== a contract out of a walk ===== -/
def ent (as : List Value) : List Value := as.flatMap fun v => match v with
  | .long x => [.long x, .null]
  | v => [v]
def okA (v : Value) : Bool := match v with
  | .int _ => true
  | .long _ => true
  | .ref _ => true
  | _ => false
theorem ssz_mono {n n' : Nat} (h : n ≤ n') : ssz n ≤ ssz n' := by
  induction n' with
  | zero => rw [show n = 0 by omega]; exact Nat.le_refl _
  | succ k ih =>
    by_cases hk : n = k + 1
    · rw [hk]; exact Nat.le_refl _
    · exact Nat.le_trans (ih (by omega)) (Nat.le_add_right _ _)
theorem lget_rep (k i : Nat) : lget (List.replicate k .null) i = .null := by
  induction k generalizing i with
  | zero => rfl
  | succ k ih =>
    cases i with
    | zero => rfl
    | succ i => exact ih i
theorem ent_args (ad : Nat → Nat) (N : Nat) : ∀ (as : List Value) (k j : Nat) (v : Value), as.all okA = true → lget (ent as ++ List.replicate N .null) j = v → v ≠ .null → (k + j, rv ad v) ∈ lv_args k (as.map (rv ad)) := by
  intro as
  induction as with
  | nil =>
    intro k j v _ h hv
    rw [show ent [] ++ List.replicate N Value.null = List.replicate N .null from rfl, lget_rep] at h
    exact absurd h.symm hv
  | cons a r ih =>
    intro k j v ha h hv
    rw [List.all_cons, Bool.and_eq_true] at ha
    cases a with
    | int x =>
      cases j with
      | zero => subst h; exact List.mem_cons_self
      | succ j =>
        have := ih (k + 1) j v ha.2 h hv
        rw [show k + (j + 1) = k + 1 + j by omega]
        exact List.mem_cons_of_mem _ this
    | ref x =>
      cases j with
      | zero => subst h; exact List.mem_cons_self
      | succ j =>
        have := ih (k + 1) j v ha.2 h hv
        rw [show k + (j + 1) = k + 1 + j by omega]
        exact List.mem_cons_of_mem _ this
    | long x =>
      cases j with
      | zero => subst h; exact List.mem_cons_self
      | succ j =>
        cases j with
        | zero => exact absurd h.symm hv
        | succ j =>
          have := ih (k + 2) j v ha.2 h hv
          rw [show k + (j + 1 + 1) = k + 2 + j by omega]
          exact List.mem_cons_of_mem _ this
    | _ => cases ha.1
theorem ent_len (ad : Nat → Nat) : ∀ as : List Value, as.all okA = true → (lg_sl (as.map (rv ad))).length = (ent as).length := by
  intro as
  induction as with
  | nil => intro _; rfl
  | cons a r ih =>
    intro ha
    rw [List.all_cons, Bool.and_eq_true] at ha
    have := ih ha.2
    cases a <;> first | (cases ha.1; done) | (simp only [lg_sl, ent, List.map_cons, List.flatMap_cons, rv, Value.category, List.length_append] at this ⊢; simp [this])
theorem sem_of_go {l : Launch} {ro : RO} {Y : MT} {as : List Value} {n n' : Nat} {M : Mem} {Post : Option Value → Mem → Prop} (hpl : plainName Y.1.cls = true) (hcl : Y.1.cls = RN Y.2.2.2.2.2.2) (hle : n ≤ n') (hn' : n' ≤ 39) (hok : as.all okA = true) (hlen : (ent as).length ≤ Y.2.2.1)
    (h : Go l ro Y n M 0 (ent as ++ List.replicate (Y.2.2.1 - (ent as).length) .null) [] n' Post) : SemR l ro Y as n M n' Post := by
  have hn : n ≤ 39 := Nat.le_trans hle hn'
  intro ad cA D sz
  refine Met.ofW (cc := Y.2.1) (maxL := Y.2.2.1) (ret := Y.2.2.2.1) hpl rfl ?_
  intro p e s m args below meth c s₁ B hml hv
  obtain ⟨rfl, hsz, hR, hNW, hro, hz⟩ := hv
  have hx := B.exec
  have hb := B.bytes
  have hr := B.returns
  have hts := atoms_spec (ws := Yw Y) B.pre
  have hown := findClass_of_methodNamed B.named
  have hlocks := B.notSynchronized
  subst hsz
  have hm := ssz_mono hle
  rw [lg_entry_eq]
  have hel := ent_len ad as hok
  have hl := lv_entry (as.map (rv ad)) (n := Y.2.2.1) (by rw [hel]; exact hlen)
  refine h p e _ s m (as.map (rv ad)).toArray below meth c (AF n ad s.heap.size) ad cA D 0 0 _ ⟨hx, hb, hml, by rw [← hcl]; exact hown, fun w hw => hts w (List.mem_cons_of_mem _ hw), hNW, fun q hq => Or.inr hq, hro, hz, ⟨Nat.le_refl _, Nat.le_refl _⟩, fun hi => by rw [(name_of_methodNamed B.named B.method).1]; simpa using hi⟩ hn ?_ ?_ ?_ s.heap [] _ hR va_S.rf ⟨hl.1, hl.2.1, by simp; omega, fun i v hv => ?_⟩
  · show 0 + n' ≤ (n' - n) + n
    omega
  · show 0 + ssz n' ≤ (ssz n' - ssz n) + ssz n
    omega
  · intro v M' ad' cA' H' locs' ls' pc' cells' slots' hp hok' hd hag hR' hS' hc' hs'
    have e1 : cells' = n' - n := by omega
    have e2 : slots' = ssz n' - ssz n := by omega
    subst e1; subst e2
    have hq : ∀ (hv : v = none ∨ (∃ x, v = some (.int x)) ∨ ∃ x, v = some (.long x)) (t : State), t.heap = H' → s.WarmedH t.vm → QSem n ad D s.heap.size n' Post (as.map (rv ad)).toArray s (.returned v) t := by
      intro hv t ht hW
      exact ⟨⟨v, M', ad', cA', rfl, hp, hv, hag, by rw [ht]; exact (hR' hn').moved hW.alike⟩, hS'.F ht⟩
    rcases hok' with ⟨rfl, hret⟩ | ⟨x, rfl, hret⟩ | ⟨x, rfl, hret⟩
    · exact W.vret hx hb (by rw [hr]; exact hret) (hq (Or.inl rfl)) hS'.2.2 hd
    · rcases hret with hret | ⟨hret, h01⟩
      · exact W.iret hx hb (by rw [hr]; exact hret) (hq (Or.inr (Or.inl ⟨x, rfl⟩))) hS'.2.2 hd
      · exact W.zret hx hb (by rw [hr]; exact hret) (nar_bool h01).2.1 (hq (Or.inr (Or.inl ⟨x, rfl⟩))) hS'.2.2 hd
    · exact W.lret hx hb (by rw [hr]; exact hret) (hq (Or.inr (Or.inr ⟨x, rfl⟩))) hS'.2.2 hd
  · have hne : v ≠ .null := by
      rcases hv.2 with ⟨x, rfl⟩ | ⟨x, rfl⟩ | ⟨⟨x, rfl⟩, -⟩ <;> exact fun q => by cases q
    have := ent_args ad _ as 0 i v hok hv.1 hne
    rw [Nat.zero_add] at this
    exact hl.2.2 _ this
/-! ===== calls ===== -/
theorem nw_tab {w : Cond} (h : w ∈ NW) : w.onTables = true := by
  have := (List.mem_filter.mp h).2
  split at this <;> first | rfl | cases this
theorem nw_warm {w : Cond} (h : w ∈ NW) {s U : State} (hW : s.WarmedH U.vm) (hz : va_Nw w s) : va_Nw w U := by
  have := (List.mem_filter.mp h).2
  split at this
  · exact va_Nw.warmF hW hz
  · exact va_Nw.warmM hW hz
  · cases this
theorem preU_blind {ro : RO} {n : Nat} {M : Mem} {ad : Nat → Nat} {cA : Nat → ClassId} {D : va_G} {sz : Nat} {as : List Value} : FrameBlind (va_Pc as (PreU ro n M ad cA D sz)) := by
  intro a U g mk h
  obtain ⟨h0, h1, h2, h3, h4, h5⟩ := h
  exact ⟨h0, h1, h2.moved (U := U.calling g mk a) (Vm.Alike.refl U.vm), fun w hw => va_Nw.same (u := U) (U := U.calling g mk a) (nw_tab hw) rfl (h3 w hw), fun o N f hf => ⟨(h4 o N f hf).1, (h4 o N f hf).2.1, (h4 o N f hf).2.2.moved (U := U.calling g mk a) (Vm.Alike.refl U.vm)⟩, fun t ht => (h5 t ht).moved (U := U.calling g mk a) (Vm.Alike.refl U.vm)⟩
section CALL
variable {l : Launch} {ro : RO} {Y : MT} {n n' n2 : Nat} {M : Mem} {pc : Nat} {L st : List Value} {Post Post1 : Option Value → Mem → Prop}
variable {p : Program} {e : Env} {R : Room} {s : State} {m : MethodId} {args : Array Value} {below : List Frame} {meth : Method} {c : Code} {A : Nat → Prop} {ad : Nat → Nat} {cA : Nat → ClassId} {D : va_G} {H : Heap} {locs : List Loc} {cells slots : Nat} {Q : State → Prop} {ls : Array Slot}
theorem af_in (F : FC ro Y p R s m args meth c A ad) (hR : RelH n M ad cA D A H s) (hS : va_S A s.heap H locs) : ∀ q, AF n ad H.size q → A q := by
  intro q h
  rcases h with ⟨i, hi, rfl⟩ | h
  · exact hR.inA hi
  · exact F.2.2.2.2.2.2.1 q (Nat.le_trans hS.1 h)
theorem preU_of {roc : RO} (F : FC ro Y p R s m args meth c A ad) (hro : ∀ o N f, roc o = some (N, f) → ro o = some (N, f)) (hR : RelH n M ad cA D A H s) (hS : va_S A s.heap H locs) {U : State} (hU : U.heap = H) (hW : s.WarmedH U.vm) : PreU roc n M ad cA D H.size U := by
  have haf := af_in F hR hS
  obtain ⟨hx, hb, hml, hown, hgw, hnw, hA, hr, hz, hroom, hini⟩ := F
  refine ⟨by rw [hU], ?_, fun w hw => nw_warm hw hW (hnw w hw), fun o N f hf => ?_, fun t ht => ?_⟩
  · rw [hU]
    obtain ⟨h1, h2, h3, h4⟩ := hR.moved hW.alike
    refine ⟨h1, ⟨h2.1, fun k q hk => Or.inl ?_⟩, h3, h4⟩
    have hkn : k < n := by
      have := (List.getElem?_eq_some_iff.mp hk).1
      simpa [wl] using this
    rw [wl_at hkn] at hk
    cases hk
    exact ⟨k, hkn, rfl⟩
  · obtain ⟨g1, g2, g3⟩ := hr o N f (hro o N f hf)
    refine ⟨g1, g2, ?_⟩
    rw [hU]
    exact ((g3.kept (H1 := H) hS.2.1).narrow haf).moved hW.alike
  · rw [hU]
    exact (((hz t ht).kept (H1 := H) hS.2.1).narrow haf).moved hW.alike
theorem pl_call {st0 : List Value} {a : Array Value} {rest : List Value} (F : FC ro Y p R s m args meth c A ad) (hR : RelH n M ad cA D A H s) (hS : va_S A s.heap H locs)
    (hr : va_Run p l e R s m args below meth c H locs cells slots (n2 - n) (ssz n2 - ssz n) (F0 m pc ls st0) (rest.map (rv ad)) (QSem n ad D H.size n2 Post1 a) (AF n ad H.size))
    (kk : ∀ (v : Option Value) (M2 : Mem) (ad2 : Nat → Nat) (cA2 : Nat → ClassId) (H2 : Heap) (locs2 : List Loc), Post1 v M2 → agr n n2 ad ad2 → (∀ f, (vst v).map (rv f) = vst v) → RelH n2 M2 ad2 cA2 D A H2 s → va_S A s.heap H2 locs2 → W p l e R s m args below meth c H2 locs2 (cells + (n2 - n)) (slots + (ssz n2 - ssz n)) Q (F0 m (pc + 3) ls (vst v ++ rest.map (rv ad)))) :
    W p l e R s m args below meth c H locs cells slots Q (F0 m pc ls st0) := by
  have haf := af_in F hR hS
  intro T hT X
  obtain ⟨v, st₀, t, T', L, h0, X', hL, e1, e2, ⟨⟨v', M2, ad2, cA2, hv, hp, hk, hag, hR2⟩, hz, hq⟩, stp⟩ := hr T hT X
  cases hv
  rw [h0] at hz hq
  have hS2 : va_S A s.heap T'.heap (locs ++ L) := ⟨Nat.le_trans hS.1 (by rw [e1]; exact hz), fun q h1 h2 => by rw [e1, hq q (Nat.lt_of_lt_of_le h1 hS.1) (fun z => h2 (haf q z))]; exact hS.2.1 q h1 h2, fun q hq => by
      rcases List.mem_append.mp hq with h | h
      · exact hS.2.2 q h
      · exact haf _ (hL q h)⟩
  have hR3 : RelH n2 M2 ad2 cA2 D A T'.heap s := by
    rw [e1]
    obtain ⟨g1, g2, g3, g4⟩ := hR2.moved (U := s) (by rw [← e2]; exact X'.warmed.alike.symm)
    exact ⟨g1, ⟨g2.1, fun k q hk => haf _ (g2.2 k q hk)⟩, g3, g4⟩
  have hvv : ∀ f, (vst v).map (rv f) = vst v := by
    intro f
    rcases hk with rfl | ⟨x, rfl⟩ | ⟨x, rfl⟩ <;> rfl
  obtain ⟨t2, a1, b1⟩ := kk v M2 ad2 cA2 T'.heap (locs ++ L) hp hag hvv hR3 hS2 T' rfl X'
  refine ⟨t2, stp t2 ?_, b1⟩
  have : v.toList = vst v := by cases v <;> rfl
  rw [this]
  exact a1
end CALL
end
section
def rok (n : Nat) (v : Value) : Bool := match v with
  | .ref o => decide (o < n ∨ 39 ≤ o)
  | _ => true
theorem rv_agr {n n2 : Nat} {ad ad2 : Nat → Nat} (h : agr n n2 ad ad2) {v : Value} (hv : rok n v = true) : rv ad2 v = rv ad v := by
  cases v <;> first | rfl | (simp only [rok, decide_eq_true_eq] at hv; simp only [rv, h.2 _ hv])
theorem rv_agrs {n n2 : Nat} {ad ad2 : Nat → Nat} (h : agr n n2 ad ad2) {st : List Value} (hv : st.all (rok n) = true) : st.map (rv ad2) = st.map (rv ad) :=
  List.map_congr_left fun v hm => rv_agr h (List.all_eq_true.mp hv v hm)
theorem lget_mem : ∀ (L : List Value) (i : Nat), lget L i = .null ∨ lget L i ∈ L := by
  intro L
  induction L with
  | nil => intro i; exact Or.inl rfl
  | cons a r ih =>
    intro i
    cases i with
    | zero => exact Or.inr List.mem_cons_self
    | succ i => exact (ih i).imp id (List.mem_cons_of_mem _)
theorem lr_agr {n n2 : Nat} {ad ad2 : Nat → Nat} (h : agr n n2 ad ad2) {ls : Array Slot} {nL : Nat} {L : List Value} (hl : lr ad ls nL L) (hv : L.all (rok n) = true) : lr ad2 ls nL L := by
  refine ⟨hl.1, hl.2.1, hl.2.2.1, fun i v hc => ?_⟩
  rw [rv_agr h]
  · exact hl.2.2.2 i v hc
  · rcases lget_mem L i with q | q
    · rw [hc.1] at q
      subst q
      rfl
    · rw [hc.1] at q
      exact List.all_eq_true.mp hv v q
theorem yw_good {Y : MT} (hcw : Cond.code Y.1 Y.2.1 Y.2.2.1 Y.2.2.2.1 ∈ GW) : GoodIn GW (Yw Y) := by
  intro w hw
  rcases List.mem_cons.mp hw with rfl | hw
  · exact gw_good _ hcw
  · exact gw_good _ hw
section CALLS
variable {l : Launch} {ro : RO} {Y Y2 : MT} {n n' n2 : Nat} {M : Mem} {pc : Nat} {L st : List Value} {Post Post1 : Option Value → Mem → Prop}
variable {p : Program} {e : Env} {R : Room} {s : State} {m : MethodId} {args : Array Value} {below : List Frame} {meth : Method} {c : Code} {A : Nat → Prop} {ad : Nat → Nat} {cA : Nat → ClassId} {D : va_G} {H : Heap} {locs : List Loc} {cells slots : Nat} {Q : State → Prop} {ls : Array Slot}
theorem fc_agr (F : FC ro Y p R s m args meth c A ad) {ad2 : Nat → Nat} (h : agr n n2 ad ad2) : FC ro Y p R s m args meth c A ad2 := by
  obtain ⟨hx, hb, hml, hown, hgw, hnw, hA, hr, hz, hroom, hini⟩ := F
  refine ⟨hx, hb, hml, hown, hgw, hnw, hA, fun o N f hf => ?_, fun t ht => ?_, hroom, hini⟩
  · obtain ⟨g1, g2, g3⟩ := hr o N f hf
    rw [h.2 o (Or.inr g2)]
    exact ⟨g1, g2, g3⟩
  · rw [h.2 t (Or.inr (by omega))]
    exact hz t ht
/-- what the words of a call say, by its row -/
theorem ck_spec {cn idx kind na p1 p2 p3 p4 p5 : Nat} (h : clOk (cn, idx, kind, Y2, na, p1, p2, p3, p4, p5) = true) :
    (lw_tbl[p1]? = some (if kind % 2 = 1 then .methodLinkNest (RN cn) idx Y2.1 "RationDesk" else .methodLink (RN cn) idx Y2.1)) ∧ (lw_tbl[p2]? = some (if kind / 2 = 1 then .static Y2.1 else .instanceMethod Y2.1)) ∧ (kind / 2 = 0 → lw_tbl[p3]? = some (.selects Y2.1.cls Y2.1 Y2.1)) ∧ (lw_tbl[p4]? = some (.initialized Y2.1.cls)) ∧
    Y2.1.cls = RN Y2.2.2.2.2.2.2 ∧ (kind / 2 ≠ 1 → Y2.2.2.2.2.2.2 < 6) ∧ (Y2.1.cls ≠ "java/lang/invoke/MethodHandle" ∧ Y2.1.cls ≠ "java/lang/invoke/VarHandle" ∧ (parseMethodDescriptor Y2.1.desc).map (fun d => d.parameters.length) = some na) ∧ (kind / 2 = 2 → Y2.1.name = "<init>" ∧ Y2.2.2.2.1 = none) := by
  simp only [clOk, Bool.and_eq_true, Bool.or_eq_true, decide_eq_true_eq, bne_iff_ne, beq_iff_eq, ne_eq] at h
  obtain ⟨⟨⟨⟨⟨⟨⟨h1, h2⟩, h3⟩, h4⟩, h5⟩, h6⟩, h7⟩, h8⟩ := h
  exact ⟨h1, h2, fun q => h3.resolve_left (fun z => z q), h4, h5, fun q => h6.resolve_left q, h7, fun q => h8.resolve_left (fun z => z q)⟩
/-- the four ways of a call, one row: the way of the words is the kind's -/
theorem pl_run {roc : RO} {cn idx kind na p1 p2 p3 p4 p5 : Nat} (hck : clOk (cn, idx, kind, Y2, na, p1, p2, p3, p4, p5) = true) (hcn : Y.2.2.2.2.2.2 = cn) (hcw : Cond.code Y2.1 Y2.2.1 Y2.2.2.1 Y2.2.2.2.1 ∈ GW)
    {as : List Value} {rest : List Value} {recv : List Value} (hd : decode Y.2.1 pc = .ok ((if kind / 2 = 0 then .invokevirtual idx else if kind / 2 = 1 then .invokestatic idx else .invokespecial idx), 3)) (hk : kind < 6) (hna : as.length = na)
    (hrecv1 : kind / 2 = 1 → recv = []) (hrecv2 : kind / 2 ≠ 1 → ∃ o, recv = [.ref o] ∧ o < n ∧ shg SHL o = some (.inl Y2.2.2.2.2.2.2)) (hcat : (rest.map fun v => v.category).sum ≤ 8)
    (hroom : Y2.2.2.2.2.1 + 1 ≤ Y.2.2.2.2.1 ∧ 8 + (Y2.2.2.1 + 11) + Y2.2.2.2.2.2.1 ≤ Y.2.2.2.2.2.1) (hS2 : SemR l roc Y2 (recv ++ as) n M n2 Post1) (hc : cells + (n2 - n) ≤ R.cells) (hs : slots + (ssz n2 - ssz n) ≤ R.slots)
    (F : FC ro Y p R s m args meth c A ad) (hro : ∀ o N f, roc o = some (N, f) → ro o = some (N, f)) (hR : RelH n M ad cA D A H s) (hS : va_S A s.heap H locs) (hl : lr ad ls Y.2.2.1 L) :
    va_Run p l e R s m args below meth c H locs cells slots (n2 - n) (ssz n2 - ssz n) (F0 m pc ls ((as.reverse ++ (recv ++ rest)).map (rv ad))) (rest.map (rv ad)) (QSem n ad D H.size n2 Post1 ((recv ++ as).map (rv ad)).toArray) (AF n ad H.size) := by
  subst hcn
  obtain ⟨w1, w2, w3, w4, hcl, hc7, hdn, hini2⟩ := ck_spec hck
  have hpre : ∀ U : State, U.heap = H → s.WarmedH U.vm → PreU roc n M ad cA D H.size U := fun U hU hW => preU_of F hro hR hS hU hW
  have haf := af_in F hR hS
  have F' := F
  obtain ⟨hx, hb, hml, hown, hgw, hnw, hA, hr, hz, hrm, hini⟩ := F'
  have hM := hS2 ad cA D H.size
  have hrooms : Y2.2.2.2.2.1 + 1 ≤ R.frames ∧ 8 + (Y2.2.2.1 + 11) + Y2.2.2.2.2.2.1 ≤ R.locals := ⟨Nat.le_trans hroom.1 hrm.1, Nat.le_trans hroom.2 hrm.2⟩
  have hfix : CallFix p m c Y.2.1 Y.2.2.1 s args GW (RN Y.2.2.2.2.2.2) := ⟨hx, hb, hml, hown, hgw⟩
  have hyw := yw_good hcw
  have ini := gw_at w4 rfl
  have hcat2 : ((rest.map (rv ad)).map fun v => v.category).sum ≤ 8 := by
    rw [List.map_map]
    have : ((fun v => v.category) ∘ rv ad) = fun (v : Value) => v.category := by
      funext v
      exact rv_cat ad v
    rw [this]
    exact hcat
  have hrec : kind / 2 ≠ 1 → ∀ o, recv = [.ref o] → o < n → shg SHL o = some (.inl Y2.2.2.2.2.2.2) → ∃ cell : Cell, H[ad o]? = some cell ∧ cell.vm.isStatics = false ∧ s.vm.findClass Y2.1.cls = some cell.cls := by
    intro hk1 o _ ho hsh
    rw [hcl]
    have hent : (wl n ad cA M)[o]? = some (ad o, .inr (Y2.2.2.2.2.2.2, (List.range (nf Y2.2.2.2.2.2.2)).map (fval ad M Y2.2.2.2.2.2.2 o))) := by
      rw [wl_at ho, went, hsh]
    exact va_recv hR.2.2.1 hR.1 (cl_at _ (hc7 hk1)) hent
  have hmap : (as.reverse ++ (recv ++ rest)).map (rv ad) = (as.map (rv ad)).reverse ++ (recv.map (rv ad) ++ rest.map (rv ad)) := by simp
  rw [hmap]
  have hmap2 : ((recv ++ as).map (rv ad)).toArray = (recv.map (rv ad) ++ as.map (rv ad)).toArray := by simp
  rcases (show kind = 0 ∨ kind = 1 ∨ kind = 2 ∨ kind = 3 ∨ kind = 4 ∨ kind = 5 by omega) with rfl | rfl | rfl | rfl | rfl | rfl
  · obtain ⟨o, rfl, ho, hsh⟩ := hrecv2 (by decide)
    have hGV : GoodIn GW (wsV (RN Y.2.2.2.2.2.2) idx Y2.1.cls Y2.1 (Yw Y2)) := by
      intro w hw
      rcases List.mem_append.mp hw with hw | hw
      · simp only [List.mem_cons, List.not_mem_nil, or_false] at hw
        rcases hw with rfl | rfl | rfl | rfl
        · exact gw_good _ (gw_at w1 rfl)
        · exact gw_good _ (gw_at w2 rfl)
        · exact gw_good _ (gw_at (w3 rfl) rfl)
        · exact gw_good _ ini
      · exact hyw w hw
    exact va_runV (As := as.map (rv ad)) hfix hM (cwV na hgw hGV rfl rfl rfl ⟨rfl, hdn⟩ hrooms) ⟨preU_blind, hrec (by decide) o rfl ho hsh, fun U hU hW => ⟨rfl, hpre U hU hW⟩⟩ rfl (by simp [hna]) hl.1 rfl (lv_room hcat2) hd ⟨hc, hs⟩
  · obtain ⟨o, rfl, ho, hsh⟩ := hrecv2 (by decide)
    exact va_runVN (As := as.map (rv ad)) hfix hM ⟨va_cnB na hgw hyw rfl rfl rfl (hnw _ (nw_m w1)) (hgw _ ini) hdn hrooms, hgw _ (gw_at w2 rfl), hgw _ (gw_at (w3 rfl) rfl)⟩ ⟨preU_blind, hrec (by decide) o rfl ho hsh, fun U hU hW => ⟨rfl, hpre U hU hW⟩⟩ rfl (by simp [hna]) hl.1 rfl (lv_room hcat2) hd ⟨hc, hs⟩
  · obtain rfl := hrecv1 (by decide)
    have hGS : GoodIn GW (va_wsS (RN Y.2.2.2.2.2.2) idx Y2.1 (Yw Y2)) := by
      intro w hw
      rcases List.mem_append.mp hw with hw | hw
      · simp only [List.mem_cons, List.not_mem_nil, or_false] at hw
        rcases hw with rfl | rfl | rfl
        · exact gw_good _ (gw_at w1 rfl)
        · exact gw_good _ (gw_at w2 rfl)
        · exact gw_good _ ini
      · exact hyw w hw
    exact va_runS (As := as.map (rv ad)) hfix hM (va_cwS na hgw hGS rfl rfl rfl hdn hrooms) ⟨preU_blind, fun U hU hW => ⟨rfl, hpre U hU hW⟩⟩ rfl (by simp [hna]) hl.1 rfl (lv_room hcat2) hd ⟨hc, hs⟩
  · obtain rfl := hrecv1 (by decide)
    exact va_runSN (As := as.map (rv ad)) hfix hM ⟨va_cnB na hgw hyw rfl rfl rfl (hnw _ (nw_m w1)) (hgw _ ini) hdn hrooms, hgw _ (gw_at w2 rfl), trivial⟩ ⟨preU_blind, fun U hU hW => ⟨rfl, hpre U hU hW⟩⟩ rfl (by simp [hna]) hl.1 rfl (lv_room hcat2) hd ⟨hc, hs⟩
  · obtain ⟨o, rfl, ho, hsh⟩ := hrecv2 (by decide)
    obtain ⟨hnm, hret⟩ := hini2 (by decide)
    exact va_runI (As := as.map (rv ad)) (maxL := Y2.2.2.1) (bytes := Y2.2.1) hfix hM (cwI na hgw hyw (by unfold Yw; rw [hret]) rfl rfl (hgw _ ini) (hgw _ (gw_at w1 rfl)) (hgw _ (gw_at w2 rfl)) hnm hdn hrooms) ⟨preU_blind, fun U hU hW => ⟨rfl, hpre U hU hW⟩⟩ rfl (by simp [hna]) hl.1 rfl (lv_room hcat2) hd ⟨hc, hs⟩
  · obtain ⟨o, rfl, ho, hsh⟩ := hrecv2 (by decide)
    obtain ⟨hnm, hret⟩ := hini2 (by decide)
    exact va_runIN (As := as.map (rv ad)) (maxL := Y2.2.2.1) (bytes := Y2.2.1) hfix hM ⟨va_cnB na hgw hyw (by unfold Yw; rw [hret]) rfl rfl (hnw _ (nw_m w1)) (hgw _ ini) hdn hrooms, hnm, hgw _ (gw_at w2 rfl)⟩ ⟨preU_blind, fun U hU hW => ⟨rfl, hpre U hU hW⟩⟩ rfl (by simp [hna]) hl.1 rfl (lv_room hcat2) hd ⟨hc, hs⟩
def cInstr (kind idx : Nat) : Instr := if kind / 2 = 0 then .invokevirtual idx else if kind / 2 = 1 then .invokestatic idx else .invokespecial idx
/-- a call: the callee's contract, then what follows for each of its answers -/
theorem go_call {roc : RO} {cn idx kind na p1 p2 p3 p4 p5 : Nat} {stk : List Value} (recv as : List Value) (hck : clOk (cn, idx, kind, Y2, na, p1, p2, p3, p4, p5) = true) (hcw : Cond.code Y2.1 Y2.2.1 Y2.2.2.1 Y2.2.2.2.1 ∈ GW)
    (hst : stk = as.reverse ++ (recv ++ st)) (hd : okd Y.2.1 pc (cInstr kind idx) 3 = true) (hside : (decide (Y.2.2.2.2.2.2 = cn) && decide (kind < 6) && decide (as.length = na) && decide (n ≤ n2) && decide (n2 ≤ n') && decide (n2 ≤ 39) && decide (Y2.2.2.2.2.1 + 1 ≤ Y.2.2.2.2.1 ∧ 8 + (Y2.2.2.1 + 11) + Y2.2.2.2.2.2.1 ≤ Y.2.2.2.2.2.1)) = true)
    (hrecv1 : kind / 2 = 1 → recv = []) (hrecv2 : kind / 2 ≠ 1 → ∃ o, recv = [.ref o] ∧ o < n ∧ shg SHL o = some (.inl Y2.2.2.2.2.2.2)) (hcat : (st.map fun v => v.category).sum ≤ 8)
    (hnew : n2 = n ∨ (L.all (rok n) && st.all (rok n)) = true) (hro : ∀ o N f, roc o = some (N, f) → ro o = some (N, f))
    (hS2 : SemR l roc Y2 (recv ++ as) n M n2 Post1) (k : ∀ (v : Option Value) (M2 : Mem), Post1 v M2 → Go l ro Y n2 M2 (pc + 3) L (vst v ++ st) n' Post) : Go l ro Y n M pc L stk n' Post := by
  subst hst
  simp only [Bool.and_eq_true, decide_eq_true_eq] at hside
  obtain ⟨⟨⟨⟨⟨⟨s1, s2⟩, s3⟩, s4⟩, s5⟩, s6⟩, s7⟩ := hside
  intro p e R s m args below meth c A ad cA D cells slots Q F hn hc hs K H locs ls hR hS hl
  have m1 := ssz_mono s4
  have m2 := ssz_mono s5
  refine pl_call (n2 := n2) (Post1 := Post1) (a := ((recv ++ as).map (rv ad)).toArray) (rest := st) F hR hS (pl_run hck s1 hcw (okd_eq hd) s2 s3 hrecv1 hrecv2 hcat s7 hS2 (by omega) (by omega) F hro hR hS hl) ?_
  intro v M2 ad2 cA2 H2 locs2 hp hag hvv hR2 hS2'
  have F2 := fc_agr F hag
  have hst2 : vst v ++ st.map (rv ad) = (vst v ++ st).map (rv ad2) := by
    rw [List.map_append, hvv ad2]
    rcases hnew with h | h
    · rw [hag.1 h]
    · rw [Bool.and_eq_true] at h
      rw [rv_agrs hag h.2]
  have hl2 : lr ad2 ls Y.2.2.1 L := by
    rcases hnew with h | h
    · rw [hag.1 h]
      exact hl
    · rw [Bool.and_eq_true] at h
      exact lr_agr hag hl h.1
  rw [hst2]
  refine k v M2 hp p e R s m args below meth c A ad2 cA2 D (cells + (n2 - n)) (slots + (ssz n2 - ssz n)) Q F2 s6 (by omega) (by omega) ?_ H2 locs2 ls hR2 hS2' hl2
  intro v' M' ad' cA' H' locs' ls' pc' cells' slots' q1 q2 q3 q4 q5 q6 q7 q8
  refine K v' M' ad' cA' H' locs' ls' pc' cells' slots' q1 q2 q3 ⟨fun h => ?_, fun i hi => ?_⟩ q5 q6 (by omega) (by omega)
  · rw [q4.1 (by omega), hag.1 (by omega)]
  · rw [q4.2 i (by omega), hag.2 i hi]
/-- the last call of a method: what it makes of its own is nobody's later; the caller's objects are forgotten -/
theorem go_last {roc : RO} {M0 : Mem} {cn idx kind na p1 p2 p3 p4 p5 : Nat} {stk : List Value} (as : List Value) (hck : clOk (cn, idx, kind, Y2, na, p1, p2, p3, p4, p5) = true) (hcw : Cond.code Y2.1 Y2.2.1 Y2.2.2.1 Y2.2.2.2.1 ∈ GW)
    (hst : stk = as.reverse) (hd : okd Y.2.1 pc (cInstr kind idx) 3 = true) (hd2 : okd Y.2.1 (pc + 3) .ireturn 1 = true) (hside : (decide (Y.2.2.2.2.2.2 = cn) && decide (kind < 6) && decide (kind / 2 = 1) && decide (as.length = na) && decide (n2 + n = n') && decide (39 < n') && decide (n2 ≤ 39) && decide (ssz n2 + ssz n = ssz n') && decide (Y2.2.2.2.2.1 + 1 ≤ Y.2.2.2.2.1 ∧ 8 + (Y2.2.2.1 + 11) + Y2.2.2.2.2.2.1 ≤ Y.2.2.2.2.2.1)) = true)
    (hint : ∀ f : Nat → Nat, as.map (rv f) = as) (hret : Y.2.2.2.1 = some .boolean) (hro : ∀ o N f, roc o = some (N, f) → ro o = some (N, f))
    (hS2 : SemR l roc Y2 as 0 M0 n2 (fun v _ => v = some (.int 1))) (hp : Post (some (.int 1)) M0) : Go l ro Y n M pc L stk n' Post := by
  subst hst
  simp only [Bool.and_eq_true, decide_eq_true_eq] at hside
  obtain ⟨⟨⟨⟨⟨⟨⟨⟨s1, s2⟩, s3⟩, s4⟩, s5⟩, s6⟩, s7⟩, s8⟩, s9⟩ := hside
  intro p e R s m args below meth c A ad cA D cells slots Q F hn hc hs K H locs ls hR hS hl
  have hR0 : RelH 0 M0 ad cA D A H s := ⟨fun k q h => by simp [wl] at h, ⟨fun i j p q h => by simp [wl] at h, fun k q h => by simp [wl] at h⟩, hR.2.2.1, fun i hi => absurd hi (Nat.not_lt_zero i)⟩
  have h0 : ssz 0 = 0 := rfl
  rw [show as.reverse = as.reverse ++ ([] ++ ([] : List Value)) by simp]
  refine pl_call (n := 0) (n2 := n2) (M := M0) (Post1 := fun v _ => v = some (.int 1)) (a := (([] ++ as).map (rv ad)).toArray) (rest := []) F hR0 hS (pl_run (n := 0) (n2 := n2) (M := M0) (as := as) (rest := []) (recv := []) (Post1 := fun v _ => v = some (.int 1)) hck s1 hcw (okd_eq hd) s2 s4 (fun _ => rfl) (fun h => absurd s3 h) (by decide) s9 hS2 (by omega) (by omega) F hro hR0 hS hl) ?_
  intro v M2 ad2 cA2 H2 locs2 hv hag hvv hR2 hS2'
  subst hv
  have := K (some (.int 1)) M0 ad cA H2 locs2 ls (pc + 3) (cells + n2) (slots + ssz n2) hp (Or.inr (Or.inl ⟨1, rfl, Or.inr ⟨hret, Or.inr rfl⟩⟩)) (okd_eq hd2) ⟨fun _ => rfl, fun _ _ => rfl⟩ (fun h => absurd h (Nat.not_le.mpr s6)) hS2' (by omega) (by omega)
  exact this
end CALLS
end
section
/-! ===== making objects and rows; Object's constructor; Math.abs; the switch ===== -/
def zrow {α : Type} (f : Nat → Nat → α) (n : Nat) (z : α) : Nat → Nat → α := fun o k => if o = n then z else f o k
def zer (n : Nat) (M : Mem) : Mem := (zrow M.1 n 0, zrow M.2.1 n 0, zrow M.2.2 n .null)
theorem zrow_o {α : Type} {f : Nat → Nat → α} {n : Nat} {z : α} {o : Nat} (h : o ≠ n) : zrow f n z o = f o := by
  funext k
  exact if_neg h
theorem zrow_n {α : Type} {f : Nat → Nat → α} {n : Nat} {z : α} : zrow f n z n = fun _ => z := by
  funext k
  exact if_pos rfl
def refsOk (n : Nat) (M : Mem) : Bool := (List.range n).all fun i => (List.range 23).all fun k => rok n (M.2.2 i k)
theorem nf_le : ∀ c, c < 6 → nf c ≤ 23 := by decide +kernel
theorem went_agr {n n2 : Nat} {ad ad2 : Nat → Nat} {cA cA2 : Nat → ClassId} {M : Mem} (h : agr n n2 ad ad2) (hc : ∀ i, i < n → cA2 i = cA i) (hn : n ≤ 39) (hr : refsOk n M = true) {i : Nat} (hi : i < n) : went ad2 cA2 (zer n M) i = went ad cA M i := by
  have hne : i ≠ n := by omega
  have h1 : (zer n M).1 i = M.1 i := zrow_o hne
  have h2 : (zer n M).2.1 i = M.2.1 i := zrow_o hne
  have h3 : (zer n M).2.2 i = M.2.2 i := zrow_o hne
  rw [went, went, h.2 i (Or.inl hi), hc i hi, h1]
  split
  · rename_i ci hsh
    have hf : (List.range (nf ci)).map (fval ad2 (zer n M) ci i) = (List.range (nf ci)).map (fval ad M ci i) := by
      refine List.map_congr_left fun k hk => ?_
      have hk := List.mem_range.mp hk
      have hk2 : k < 23 := Nat.lt_of_lt_of_le hk (nf_le ci (sh_cls i ci hsh))
      have hrk := List.all_eq_true.mp (List.all_eq_true.mp hr i (List.mem_range.mpr hi)) k (List.mem_range.mpr hk2)
      unfold fval rdf
      rw [h1, h2, h3]
      split
      · rfl
      · exact rv_agr h hrk
      · rfl
    rw [hf]
  · rfl
  · rfl
theorem wl_push {n : Nat} {ad ad2 : Nat → Nat} {cA cA2 : Nat → ClassId} {M : Mem} (h : agr n (n + 1) ad ad2) (hc : ∀ i, i < n → cA2 i = cA i) (hn : n ≤ 39) (hr : refsOk n M = true) : wl (n + 1) ad2 cA2 (zer n M) = wl n ad cA M ++ [went ad2 cA2 (zer n M) n] := by
  unfold wl
  rw [List.range_succ, List.map_append]
  congr 1
  exact List.map_congr_left fun i hi => went_agr h hc hn hr (List.mem_range.mp hi)
def dfv (ci k : Nat) : Value := match fty ci k with
  | 1 => .long 0
  | 2 => .null
  | _ => .int 0
section MAKE
variable {l : Launch} {ro : RO} {Y : MT} {n n' : Nat} {M : Mem} {pc : Nat} {L st : List Value} {Post : Option Value → Mem → Prop}
theorem agr_push {n q : Nat} (ad : Nat → Nat) (hn : n < 39) : agr n (n + 1) ad (fun i => if i = n then q else ad i) :=
  ⟨fun h => by omega, fun i hi => if_neg (by omega)⟩
theorem go_new {idx ci p1 p2 p3 : Nat} (hd : okd Y.2.1 pc (.new idx) 3 = true) (hnl : NLT.contains (Y.2.2.2.2.2.2, idx, ci, p1, p2, p3) = true) (hsh : shg SHL n = some (.inl ci)) (hn' : n + 1 ≤ n') (hn39 : n < 39) (hrefs : refsOk n M = true) (hL : (L.all (rok n) && st.all (rok n)) = true)
    (k : Go l ro Y (n + 1) (zer n M) (pc + 3) L (.ref n :: st) n' Post) : Go l ro Y n M pc L st n' Post := by
  intro p e R s m args below meth c A ad cA D cells slots Q F hn hc hs K H locs ls hR hS hl
  have hnl2 := List.all_eq_true.mp NLT_ok _ (List.contains_iff_mem.mp hnl)
  simp only [Bool.and_eq_true, decide_eq_true_eq] at hnl2
  obtain ⟨⟨⟨w1, w2⟩, w3⟩, w4⟩ := hnl2
  rw [Bool.and_eq_true] at hL
  have hmono := ssz_mono hn'
  have hstep : ssz (n + 1) = ssz n + nf ci := by
    show ssz n + ssz1 n = _
    rw [ssz1, hsh]
  obtain ⟨hx, hb, hml, hown, hgw, hnw, hA, hr, hz, hroom, hini⟩ := id F
  have hdef : ∀ j, j < nf ci → defaultValue (tyT ci j) = vp_V ((List.range (nf ci)).map (dfv ci)) j := by
    intro j hj
    have h : ∀ c, c < 6 → ∀ j, j < nf c → defaultValue (tyT c j) = dfv c j := by decide +kernel
    rw [h ci w4 j hj]
    simp [vp_V, hj]
  refine va_new (ci := ci) hx hb hgw (lay_ok ci w4) (tyT ci) (tyT_ok ci w4) hown (hgw _ (gw_at w1 rfl)) (hgw _ (gw_at w2 rfl)) (hgw _ (gw_at w3 rfl)) hR.2.2.1 hR.1 hR.2.1 hS hA (cl_at ci w4) hdef (by omega) (by omega) (okd_eq hd) (fun q H1 g1 g2 g3 => ?_)
  have hag : agr n (n + 1) ad (fun i => if i = n then q else ad i) := agr_push ad hn39
  have hpush := wl_push (cA := cA) (cA2 := cA) hag (fun _ _ => rfl) hn hrefs
  have hlast : went (fun i => if i = n then q else ad i) cA (zer n M) n = (q, .inr (ci, (List.range (nf ci)).map (dfv ci))) := by
    rw [went, hsh]
    simp only [if_true]
    have : fval (fun i => if i = n then q else ad i) (zer n M) ci n = dfv ci := by
      funext k
      unfold fval rdf zer dfv
      simp only [zrow_n]
      generalize fty ci k = t
      match t with
      | 0 => rfl
      | 1 => rfl
      | 2 => rfl
      | t + 3 => rfl
    rw [this]
  rw [hlast] at hpush
  rw [← hpush] at g1 g2
  have hst2 : (Value.ref q :: st.map (rv ad)) = (Value.ref n :: st).map (rv (fun i => if i = n then q else ad i)) := by
    rw [List.map_cons, rv_agrs hag hL.2]
    simp [rv]
  rw [hst2]
  refine k p e R s m args below meth c A (fun i => if i = n then q else ad i) cA D (cells + 1) (slots + nf ci) Q (fc_agr F hag) (by omega) (by omega) (by omega) ?_ H1 locs ls ⟨g1, g2, hR.2.2.1, ?_⟩ g3 (lr_agr hag hl hL.1)
  · intro v' M' ad' cA' H' locs' ls' pc' cells' slots' q1 q2 q3 q4 q5 q6 q7 q8
    refine K v' M' ad' cA' H' locs' ls' pc' cells' slots' q1 q2 q3 ⟨fun h => by omega, fun i hi => ?_⟩ q5 q6 (by omega) (by omega)
    rw [q4.2 i (by omega), hag.2 i hi]
  · intro i hi b N hb2
    by_cases hin : i = n
    · subst hin
      rw [hsh] at hb2
      cases hb2
    · exact hR.2.2.2 i (by omega) b N hb2
def aty (b : Bool) : ArrayType := if b = true then .boolean else .int
theorem go_newarray {b : Bool} {N : Nat} {len : Int32} (hd : okd Y.2.1 pc (.newarray (aty b)) 2 = true) (hsh : shg SHL n = some (.inr (b, N))) (hlen : len = nI N) (hn' : n + 1 ≤ n') (hn39 : n < 39) (hrefs : refsOk n M = true) (hL : (L.all (rok n) && st.all (rok n)) = true)
    (k : Go l ro Y (n + 1) (zer n M) (pc + 2) L (.ref n :: st) n' Post) : Go l ro Y n M pc L (.int len :: st) n' Post := by
  intro p e R s m args below meth c A ad cA D cells slots Q F hn hc hs K H locs ls hR hS hl
  rw [Bool.and_eq_true] at hL
  have hmono := ssz_mono hn'
  have hN := sh_small n b N hsh
  have hN2 : N ≤ 364 := by
    have h : ∀ i, i < 39 → ∀ b N, shg SHL i = some (.inr (b, N)) → N ≤ 364 := by
      have h : (List.range 39).all (fun i => match shg SHL i with
        | some (.inr (_, N)) => decide (N ≤ 364)
        | _ => true) = true := by decide +kernel
      intro i hi b N hb
      have := List.all_eq_true.mp h i (List.mem_range.mpr hi)
      rw [hb] at this
      simpa using this
    exact h n hn39 b N hsh
  have hstep : ssz (n + 1) = ssz n + N := by
    show ssz n + ssz1 n = _
    rw [ssz1, hsh]
  obtain ⟨hx, hb, hml, hown, hgw, hnw, hA, hr, hz, hroom, hini⟩ := id F
  have hty : newarray.typeOf (aty b) = bty b := by cases b <;> rfl
  have harr : (Cond.arrayClass (newarray.typeOf (aty b))).before args s = true := by
    cases b
    · exact hgw _ (gw_at arr_ok.1 rfl)
    · exact hgw _ (gw_at arr_ok.2 rfl)
  have hvp : ∀ cA : ClassId, vp_cell cA (N, .inl (fun _ => 0)) = arrV cA N (fun _ => defaultValue (bty b)) := by
    intro cA
    cases b <;> rfl
  have hcl : len.toNatClampNeg = N := by rw [hlen]; exact nI_clamp hN
  have hpos : ¬ len < 0 := by rw [hlen]; exact nI_pos hN
  have hby : N * componentBytes (bty b) ≤ 536870912 := by
    have h4 : componentBytes (bty b) ≤ 4 := by cases b <;> decide
    have h5 : N * componentBytes (bty b) ≤ 364 * 4 := Nat.mul_le_mul hN2 h4
    exact Nat.le_trans h5 (Nat.le_of_ble_eq_true rfl)
  refine va_newa (ty := bty b) (a0 := (N, .inl (fun _ => 0))) hx hb harr hty hR.2.2.1 hR.1 hR.2.1 hS hA hvp hpos hcl hby (by omega) (by omega) (okd_eq hd) (fun q cN H1 gK g1 g2 g3 => ?_)
  have hag : agr n (n + 1) ad (fun i => if i = n then q else ad i) := agr_push ad hn39
  have hpush := wl_push (cA := cA) (cA2 := fun i => if i = n then cN else cA i) hag (fun i hi => if_neg (by omega)) hn hrefs
  have hlast : went (fun i => if i = n then q else ad i) (fun i => if i = n then cN else cA i) (zer n M) n = (q, .inl (cN, N, .inl (fun _ => 0))) := by
    rw [went, hsh]
    simp only [if_true]
    have : (zer n M).1 n = fun _ => 0 := zrow_n
    rw [this]
  rw [hlast] at hpush
  rw [← hpush] at g1 g2
  have hst2 : (Value.ref q :: st.map (rv ad)) = (Value.ref n :: st).map (rv (fun i => if i = n then q else ad i)) := by
    rw [List.map_cons, rv_agrs hag hL.2]
    simp [rv]
  rw [hst2]
  refine k p e R s m args below meth c A (fun i => if i = n then q else ad i) (fun i => if i = n then cN else cA i) D (cells + 1) (slots + N) Q (fc_agr F hag) (by omega) (by omega) (by omega) ?_ H1 locs ls ⟨g1, g2, hR.2.2.1, ?_⟩ g3 (lr_agr hag hl hL.1)
  · intro v' M' ad' cA' H' locs' ls' pc' cells' slots' q1 q2 q3 q4 q5 q6 q7 q8
    refine K v' M' ad' cA' H' locs' ls' pc' cells' slots' q1 q2 q3 ⟨fun h => by omega, fun i hi => ?_⟩ q5 q6 (by omega) (by omega)
    rw [q4.2 i (by omega), hag.2 i hi]
  · intro i hi b2 N2 hb2
    by_cases hin : i = n
    · subst hin
      rw [hsh] at hb2
      cases hb2
      simp only [if_true]
      exact gK.2 0 (cN, bty b) rfl
    · simp only [if_neg hin]
      exact hR.2.2.2 i (by omega) b2 N2 hb2
theorem go_obj {idx p1 : Nat} {o : Nat} (hd : okd Y.2.1 pc (.invokespecial idx) 3 = true) (hol : OLT.contains (Y.2.2.2.2.2.2, idx, p1) = true) (hroom : 1 ≤ Y.2.2.2.2.1 ∧ (st.map fun v => v.category).sum + 12 ≤ Y.2.2.2.2.2.1)
    (k : Go l ro Y n M (pc + 3) L st n' Post) : Go l ro Y n M pc L (.ref o :: st) n' Post := by
  intro p e R s m args below meth c A ad cA D cells slots Q F hn hc hs K H locs ls hR hS hl
  have hol2 := List.all_eq_true.mp OLT_ok _ (List.contains_iff_mem.mp hol)
  simp only [decide_eq_true_eq] at hol2
  have kk := k p e R s m args below meth c A ad cA D cells slots Q F hn hc hs K H locs ls hR hS hl
  obtain ⟨hx, hb, hml, hown, hgw, hnw, hA, hr, hz, hrm, hini⟩ := F
  have hcat2 : (((st.map (rv ad)).map fun v => v.category).sum) = (st.map fun v => v.category).sum := by
    rw [List.map_map]
    have : ((fun v => v.category) ∘ rv ad) = fun (v : Value) => v.category := by
      funext v
      exact rv_cat ad v
    rw [this]
  refine W.objInit hx hb hown (hgw _ (gw_at hol2 rfl)) (hgw _ (gw_at obj_ok.1 rfl)) (hgw _ (gw_at obj_ok.2 rfl)) rfl (by rw [hml]; exact hl.1) rfl (okd_eq hd) (Nat.le_trans hroom.1 hrm.1) ?_ ?_
  · show 2 * 0 + _ + 12 ≤ _
    rw [hcat2]
    have := hrm.2
    omega
  · exact W.eq (g2 := F0 m (pc + 3) ls (st.map (rv ad))) rfl kk
theorem abs_ok : lw_tbl[503]? = some (.methodLink (RN 4) 72 Lib.MathLoose.abs_long.x) ∧ lw_tbl[504]? = some (.static Lib.MathLoose.abs_long.x) ∧ lw_tbl[23]? = some (.initialized "java/lang/Math") ∧ lw_tbl[505]? = some (.code Lib.MathLoose.abs_long.x Lib.MathLoose.abs_long.code 2 (some .long)) := by decide +kernel
theorem go_abs {x : Int64} (hcn : Y.2.2.2.2.2.2 = 4) (hd : okd Y.2.1 pc (.invokestatic 72) 3 = true) (hroom : 1 ≤ Y.2.2.2.2.1 ∧ (st.map fun v => v.category).sum + 13 ≤ Y.2.2.2.2.2.1) (hnn : n ≤ n')
    (k : Go l ro Y n M (pc + 3) L (.long (if 0 < x then x else -x) :: st) n' Post) : Go l ro Y n M pc L (.long x :: st) n' Post := by
  intro p e R s m args below meth c A ad cA D cells slots Q F hn hc hs K H locs ls hR hS hl
  have kk := k p e R s m args below meth c A ad cA D cells slots Q F hn hc hs K H locs ls hR hS hl
  obtain ⟨hx, hb, hml, hown, hgw, hnw, hA, hr, hz, hrm, hini⟩ := F
  have hcat2 : (((st.map (rv ad)).map fun v => v.category).sum) = (st.map fun v => v.category).sum := by
    rw [List.map_map]
    have : ((fun v => v.category) ∘ rv ad) = fun (v : Value) => v.category := by
      funext v
      exact rv_cat ad v
    rw [this]
  have hmono := ssz_mono hnn
  refine va_mabs_long hx hb (by rw [hml]; exact hl.1.symm) hown (by rw [hcn]; exact hgw _ (gw_at abs_ok.1 rfl)) (hgw _ (gw_at abs_ok.2.1 rfl)) (hgw _ (gw_at abs_ok.2.2.1 rfl)) (hgw _ (gw_at abs_ok.2.2.2 rfl)) (Nat.le_trans hroom.1 hrm.1) ?_ (by omega) (by omega) (okd_eq hd) kk
  rw [hcat2]
  have := hrm.2
  omega
theorem go_tabOut {dflt lo hi : Int} {offs : Array Int} {len : Nat} {x : Int32} (tgt : Nat) (hd : okd Y.2.1 pc (.tableswitch dflt lo hi offs) len = true) (h : x.toInt < lo ∨ hi < x.toInt) (ht : (pc : Int) + dflt = (tgt : Int)) (k : Go l ro Y n M tgt L st n' Post) : Go l ro Y n M pc L (.int x :: st) n' Post := by
  intro p e R s m args below meth c A ad cA D cells slots Q F hn hc hs K H locs ls hR hS hl
  exact lv_tableOut F.1 F.2.1 (okd_eq hd) h ht (k p e R s m args below meth c A ad cA D cells slots Q F hn hc hs K H locs ls hR hS hl)
theorem go_tabIn {dflt lo hi : Int} {offs : Array Int} {len : Nat} {x : Int32} {off : Int} (tgt : Nat) (hd : okd Y.2.1 pc (.tableswitch dflt lo hi offs) len = true) (h1 : ¬ x.toInt < lo) (h2 : ¬ hi < x.toInt) (ho : offs[(x.toInt - lo).toNat]? = some off) (ht : (pc : Int) + off = (tgt : Int)) (k : Go l ro Y n M tgt L st n' Post) : Go l ro Y n M pc L (.int x :: st) n' Post := by
  intro p e R s m args below meth c A ad cA D cells slots Q F hn hc hs K H locs ls hR hS hl
  exact lv_tableIn F.1 F.2.1 (okd_eq hd) h1 h2 ho ht (k p e R s m args below meth c A ad cA D cells slots Q F hn hc hs K H locs ls hR hS hl)
end MAKE
end
section
-- the rows of the calls
theorem ck_0_37 : clOk (0, 37, 3, mX5_isAtom, 1, 294, 295, 0, 17, 296) = true := by decide +kernel
theorem ck_0_41 : clOk (0, 41, 0, mX0_setPlane, 5, 347, 349, 9, 18, 350) = true := by decide +kernel
theorem ck_0_45 : clOk (0, 45, 3, mX5_side, 2, 265, 245, 0, 17, 246) = true := by decide +kernel
theorem ck_0_49 : clOk (0, 49, 3, mX5_onPlane, 1, 266, 242, 0, 17, 243) = true := by decide +kernel
theorem ck_0_53 : clOk (0, 53, 0, mX0_contradict, 4, 290, 292, 6, 18, 293) = true := by decide +kernel
theorem ck_0_57 : clOk (0, 57, 3, mX5_areEqual, 3, 297, 273, 0, 17, 274) = true := by decide +kernel
theorem ck_1_22 : clOk (1, 22, 0, mX1_rebuildCell, 4, 251, 253, 5, 21, 254) = true := by decide +kernel
theorem ck_1_26 : clOk (1, 26, 2, mX1_cellOf, 2, 255, 256, 0, 21, 257) = true := by decide +kernel
theorem ck_1_30 : clOk (1, 30, 2, mX1_isCell, 1, 258, 259, 0, 21, 260) = true := by decide +kernel
theorem ck_1_34 : clOk (1, 34, 0, mX0_sidesNeeded, 1, 261, 262, 263, 18, 264) = true := by decide +kernel
theorem ck_1_40 : clOk (1, 40, 2, mX1_pairsNeeded, 1, 267, 268, 0, 21, 269) = true := by decide +kernel
theorem ck_1_43 : clOk (1, 43, 0, mX0_sidesSought, 1, 278, 279, 280, 18, 281) = true := by decide +kernel
theorem ck_1_46 : clOk (1, 46, 2, mX1_pairsSought, 1, 282, 283, 0, 21, 284) = true := by decide +kernel
theorem ck_1_49 : clOk (1, 49, 0, mX0_hasFunction, 2, 286, 287, 288, 18, 289) = true := by decide +kernel
theorem ck_1_53 : clOk (1, 53, 0, mX3_havePoint, 2, 298, 299, 300, 20, 301) = true := by decide +kernel
theorem ck_1_58 : clOk (1, 58, 0, mX1_isOpen, 1, 314, 315, 316, 21, 317) = true := by decide +kernel
theorem ck_1_67 : clOk (1, 67, 3, mX5_areEqual, 3, 272, 273, 0, 17, 274) = true := by decide +kernel
theorem ck_1_71 : clOk (1, 71, 3, mX5_onPlane, 1, 277, 242, 0, 17, 243) = true := by decide +kernel
theorem ck_1_74 : clOk (1, 74, 3, mX5_side, 2, 285, 245, 0, 17, 246) = true := by decide +kernel
theorem ck_2_25 : clOk (2, 25, 0, mX2_isSatisfiedBy, 2, 322, 324, 8, 19, 325) = true := by decide +kernel
theorem ck_2_29 : clOk (2, 29, 3, mX5_holdsIn, 2, 326, 327, 0, 17, 328) = true := by decide +kernel
theorem ck_3_46 : clOk (3, 46, 0, mX3_addTo, 3, 95, 97, 0, 20, 98) = true := by decide +kernel
theorem ck_3_59 : clOk (3, 59, 0, mX3_meet, 3, 220, 222, 2, 20, 223) = true := by decide +kernel
theorem ck_3_62 : clOk (3, 62, 2, mX3_determinant, 6, 224, 225, 0, 20, 226) = true := by decide +kernel
theorem ck_3_66 : clOk (3, 66, 3, mX5_isWithin, 2, 230, 231, 0, 17, 232) = true := by decide +kernel
theorem ck_3_70 : clOk (3, 70, 0, mX3_keep, 4, 233, 235, 3, 20, 236) = true := by decide +kernel
theorem ck_3_74 : clOk (3, 74, 2, mX3_isPlane, 1, 227, 228, 0, 20, 229) = true := by decide +kernel
theorem ck_3_78 : clOk (3, 78, 0, mX3_findSides, 4, 237, 239, 4, 20, 240) = true := by decide +kernel
theorem ck_3_82 : clOk (3, 82, 3, mX5_onPlane, 1, 241, 242, 0, 17, 243) = true := by decide +kernel
theorem ck_3_86 : clOk (3, 86, 3, mX5_side, 2, 244, 245, 0, 17, 246) = true := by decide +kernel
theorem ck_4_39 : clOk (4, 39, 0, mX4_climbCell, 2, 469, 471, 14, 22, 472) = true := by decide +kernel
theorem ck_4_43 : clOk (4, 43, 2, mX4_compare, 4, 493, 494, 0, 22, 495) = true := by decide +kernel
theorem ck_4_47 : clOk (4, 47, 0, mX3_count, 0, 473, 474, 475, 20, 476) = true := by decide +kernel
theorem ck_4_53 : clOk (4, 53, 0, mX3_sidesOf, 1, 477, 478, 479, 20, 480) = true := by decide +kernel
theorem ck_4_57 : clOk (4, 57, 0, mX3_sumAt, 4, 481, 482, 483, 20, 484) = true := by decide +kernel
theorem ck_4_61 : clOk (4, 61, 0, mX3_divisorOf, 1, 485, 486, 487, 20, 488) = true := by decide +kernel
theorem ck_4_64 : clOk (4, 64, 0, mX4_climbCorner, 3, 489, 491, 15, 22, 492) = true := by decide +kernel
theorem ck_4_68 : clOk (4, 68, 2, mX4_commonDivisor, 2, 500, 501, 0, 22, 502) = true := by decide +kernel
theorem ck_5_11 : clOk (5, 11, 5, mX0_init, 0, 34, 35, 0, 18, 36) = true := by decide +kernel
theorem ck_5_18 : clOk (5, 18, 5, mX2_init, 0, 70, 71, 0, 19, 72) = true := by decide +kernel
theorem ck_5_25 : clOk (5, 25, 4, mX3_init, 0, 89, 90, 0, 20, 91) = true := by decide +kernel
theorem ck_5_32 : clOk (5, 32, 5, mX1_init, 0, 134, 135, 0, 21, 136) = true := by decide +kernel
theorem ck_5_39 : clOk (5, 39, 5, mX4_init, 0, 151, 152, 0, 22, 153) = true := by decide +kernel
theorem ck_5_55 : clOk (5, 55, 2, mX5_isAtom, 1, 339, 295, 0, 17, 296) = true := by decide +kernel
theorem ck_5_59 : clOk (5, 59, 2, mX5_areFactors, 3, 358, 359, 0, 17, 360) = true := by decide +kernel
theorem ck_5_63 : clOk (5, 63, 2, mX5_isLimit, 1, 362, 363, 0, 17, 364) = true := by decide +kernel
theorem ck_5_66 : clOk (5, 66, 0, mX0_defineLinear, 6, 365, 366, 367, 18, 368) = true := by decide +kernel
theorem ck_5_70 : clOk (5, 70, 2, mX5_isNumber, 1, 340, 341, 0, 17, 342) = true := by decide +kernel
theorem ck_5_73 : clOk (5, 73, 0, mX0_defineFact, 3, 343, 344, 345, 18, 346) = true := by decide +kernel
theorem ck_5_77 : clOk (5, 77, 0, mX5_isDefined, 1, 376, 378, 10, 17, 379) = true := by decide +kernel
theorem ck_5_80 : clOk (5, 80, 0, mX5_isDefinedOrAbsent, 1, 380, 382, 11, 17, 383) = true := by decide +kernel
theorem ck_5_83 : clOk (5, 83, 0, mX2_add, 3, 384, 385, 386, 19, 387) = true := by decide +kernel
theorem ck_5_86 : clOk (5, 86, 0, mX2_size, 0, 388, 389, 390, 19, 391) = true := by decide +kernel
theorem ck_5_90 : clOk (5, 90, 0, mX2_raise, 0, 415, 416, 417, 19, 418) = true := by decide +kernel
theorem ck_5_94 : clOk (5, 94, 0, mX2_level, 0, 419, 420, 421, 19, 422) = true := by decide +kernel
theorem ck_5_97 : clOk (5, 97, 0, mX2_lower, 0, 432, 433, 434, 19, 435) = true := by decide +kernel
theorem ck_5_100 : clOk (5, 100, 0, mX5_refresh, 0, 212, 214, 1, 17, 215) = true := by decide +kernel
theorem ck_5_103 : clOk (5, 103, 0, mX5_isWorld, 1, 302, 304, 7, 17, 305) = true := by decide +kernel
theorem ck_5_106 : clOk (5, 106, 0, mX0_defined, 0, 306, 307, 308, 18, 309) = true := by decide +kernel
theorem ck_5_109 : clOk (5, 109, 2, mX5_holdsIn, 2, 427, 327, 0, 17, 328) = true := by decide +kernel
theorem ck_5_113 : clOk (5, 113, 0, mX5_climb, 3, 443, 445, 12, 17, 446) = true := by decide +kernel
theorem ck_5_116 : clOk (5, 116, 0, mX4_reducedOver, 0, 496, 497, 498, 22, 499) = true := by decide +kernel
theorem ck_5_120 : clOk (5, 120, 0, mX4_reducedUnder, 0, 506, 507, 508, 22, 509) = true := by decide +kernel
theorem ck_5_123 : clOk (5, 123, 0, mX4_isFound, 0, 510, 511, 512, 22, 513) = true := by decide +kernel
theorem ck_5_126 : clOk (5, 126, 0, mX4_isReached, 0, 514, 515, 516, 22, 517) = true := by decide +kernel
theorem ck_5_129 : clOk (5, 129, 0, mX4_isAtMost, 1, 526, 527, 528, 22, 529) = true := by decide +kernel
theorem ck_5_132 : clOk (5, 132, 2, mX5_isWithin, 2, 361, 231, 0, 17, 232) = true := by decide +kernel
theorem ck_5_139 : clOk (5, 139, 0, mX3_rebuild, 1, 216, 217, 218, 20, 219) = true := by decide +kernel
theorem ck_5_143 : clOk (5, 143, 0, mX1_rebuild, 2, 247, 248, 249, 21, 250) = true := by decide +kernel
theorem ck_5_146 : clOk (5, 146, 0, mX1_isOpenSomewhere, 1, 310, 311, 312, 21, 313) = true := by decide +kernel
theorem ck_5_149 : clOk (5, 149, 0, mX2_areSatisfiedBy, 1, 318, 319, 320, 19, 321) = true := by decide +kernel
theorem ck_5_152 : clOk (5, 152, 0, mX4_start, 3, 447, 448, 449, 22, 450) = true := by decide +kernel
theorem ck_5_155 : clOk (5, 155, 0, mX5_climbWorld, 1, 451, 453, 13, 17, 454) = true := by decide +kernel
theorem ck_5_159 : clOk (5, 159, 2, mX1_cellOf, 2, 455, 256, 0, 21, 257) = true := by decide +kernel
theorem ck_5_163 : clOk (5, 163, 0, mX1_isOpen, 1, 456, 315, 316, 21, 317) = true := by decide +kernel
theorem ck_5_166 : clOk (5, 166, 0, mX1_neededIn, 1, 457, 458, 459, 21, 460) = true := by decide +kernel
theorem ck_5_170 : clOk (5, 170, 0, mX1_soughtIn, 1, 461, 462, 463, 21, 464) = true := by decide +kernel
theorem ck_5_173 : clOk (5, 173, 0, mX4_include, 3, 465, 466, 467, 22, 468) = true := by decide +kernel
theorem ck_6_7 : clOk (6, 7, 2, mX6_cell, 2, 329, 330, 0, 16, 331) = true := by decide +kernel
theorem ck_6_13 : clOk (6, 13, 0, mX5_fact, 3, 335, 336, 337, 17, 338) = true := by decide +kernel
theorem ck_6_19 : clOk (6, 19, 2, mX6_small, 1, 351, 352, 0, 16, 353) = true := by decide +kernel
theorem ck_6_23 : clOk (6, 23, 0, mX5_linear, 6, 354, 355, 356, 17, 357) = true := by decide +kernel
theorem ck_6_27 : clOk (6, 27, 0, mX5_clause, 3, 372, 373, 374, 17, 375) = true := by decide +kernel
theorem ck_6_31 : clOk (6, 31, 0, mX5_world, 1, 395, 396, 397, 17, 398) = true := by decide +kernel
theorem ck_6_35 : clOk (6, 35, 2, mX6_with, 1, 405, 406, 0, 16, 407) = true := by decide +kernel
theorem ck_6_38 : clOk (6, 38, 0, mX5_push, 0, 411, 412, 413, 17, 414) = true := by decide +kernel
theorem ck_6_42 : clOk (6, 42, 2, mX6_set, 2, 392, 393, 0, 16, 394) = true := by decide +kernel
theorem ck_6_46 : clOk (6, 46, 0, mX5_holds, 1, 423, 424, 425, 17, 426) = true := by decide +kernel
theorem ck_6_49 : clOk (6, 49, 0, mX5_pop, 0, 428, 429, 430, 17, 431) = true := by decide +kernel
theorem ck_6_52 : clOk (6, 52, 0, mX5_most, 3, 439, 440, 441, 17, 442) = true := by decide +kernel
theorem ck_6_55 : clOk (6, 55, 0, mX5_top, 1, 518, 519, 520, 17, 521) = true := by decide +kernel
theorem ck_6_59 : clOk (6, 59, 0, mX5_bounded, 4, 522, 523, 524, 17, 525) = true := by decide +kernel
theorem ck_6_63 : clOk (6, 63, 2, mX6_compare, 4, 530, 531, 0, 16, 532) = true := by decide +kernel
theorem ck_6_67 : clOk (6, 67, 0, mX5_worlds, 0, 208, 209, 210, 17, 211) = true := by decide +kernel
theorem ck_6_78 : clOk (6, 78, 4, mX5_init, 0, 26, 27, 0, 17, 28) = true := by decide +kernel
theorem ck_6_79 : clOk (6, 79, 2, mX6_atoms, 2, 332, 333, 0, 16, 334) = true := by decide +kernel
theorem ck_6_83 : clOk (6, 83, 2, mX6_clauses, 3, 369, 370, 0, 16, 371) = true := by decide +kernel
theorem ck_6_87 : clOk (6, 87, 2, mX6_bits, 1, 399, 400, 0, 16, 401) = true := by decide +kernel
theorem ck_6_90 : clOk (6, 90, 2, mX6_satisfied, 3, 402, 403, 0, 16, 404) = true := by decide +kernel
theorem ck_6_94 : clOk (6, 94, 2, mX6_halves, 3, 408, 409, 0, 16, 410) = true := by decide +kernel
theorem ck_6_98 : clOk (6, 98, 2, mX6_tops, 6, 436, 437, 0, 16, 438) = true := by decide +kernel
theorem ck_6_102 : clOk (6, 102, 2, mX6_fixed, 3, 537, 538, 0, 16, 539) = true := by decide +kernel
/-- the references that the made objects hold, for good -/
def PF : Nat → Nat → Value := fun o k => match o with
  | 0 => lget [.ref 1, .ref 9, .ref 12, .ref 22, .ref 26] k
  | 1 => lget [.ref 2, .ref 3, .ref 4, .ref 5, .ref 6, .ref 7, .ref 8] k
  | 9 => lget [.ref 10, .ref 11] k
  | 12 => lget [.ref 13, .ref 14, .ref 15, .ref 16, .ref 17, .ref 18, .ref 19, .ref 20, .ref 21] k
  | 22 => lget [.ref 23, .ref 24, .ref 25] k
  | _ => .null
theorem nI_n (k : Nat) : (OfNat.ofNat k : Int32) = nI k := rfl
end
section
/-! ===== words for contracts ===== -/
noncomputable def bi (p : Prop) : Int32 := @ite Int32 p (Classical.propDecidable p) 1 0
theorem bi_t {p : Prop} (h : p) : bi p = 1 := if_pos h
theorem bi_f {p : Prop} (h : ¬ p) : bi p = 0 := if_neg h
theorem bi_01 (p : Prop) : bi p = 0 ∨ bi p = 1 := by
  rcases Classical.em p with h | h
  · exact Or.inr (bi_t h)
  · exact Or.inl (bi_f h)
theorem bi_c {p q : Prop} (h : p ↔ q) : bi p = bi q := by rw [propext h]
def pv (E : Int32) (M : Mem) : Option Value → Mem → Prop := fun r M2 => r = some (.int E) ∧ M2 = M
def pl (E : Int64) (M : Mem) : Option Value → Mem → Prop := fun r M2 => r = some (.long E) ∧ M2 = M
def pn (P : Mem → Prop) : Option Value → Mem → Prop := fun r M2 => r = none ∧ P M2
theorem pv1 {p : Prop} {M : Mem} (h : p) : pv (bi p) M (some (.int 1)) M := ⟨by rw [bi_t h], rfl⟩
theorem pv0 {p : Prop} {M : Mem} (h : ¬ p) : pv (bi p) M (some (.int 0)) M := ⟨by rw [bi_f h], rfl⟩
theorem pve {x y : Int32} {M : Mem} (h : x = y) : pv y M (some (.int x)) M := ⟨by rw [h], rfl⟩
theorem ple {x y : Int64} {M : Mem} (h : x = y) : pl y M (some (.long x)) M := ⟨by rw [h], rfl⟩
def rov (o n : Nat) : Int32 := match ro0 o with
  | some (_, f) => f n
  | none => 0
def f9 (x : Int32) : Prop := -9 ≤ x ∧ x ≤ 9
def f99 (x : Int32) : Prop := -99 ≤ x ∧ x ≤ 99
theorem bitS : ∀ s, s < 32 → ∀ k, k < 5 → ((nI s >>> (nI k &&& 31)) &&& 1) = if s.testBit k = true then 1 else 0 := by decide +kernel
theorem bitS1 {s k : Nat} (hs : s < 32) (hk : k < 5) : ((nI s >>> (nI k &&& 31)) &&& 1) = 1 ↔ s.testBit k = true := by
  rw [bitS s hs k hk]
  split <;> simp_all
theorem pow5 : ∀ k, k < 5 → ((1 : Int32) <<< (nI k &&& 31)) = nI (2 ^ k) := by decide +kernel
def grp (p a : Nat) : Nat := match p, a with
  | 0, 1 => 1
  | 0, 2 => 2
  | 1, 2 => 1
  | 2, 1 => 1
  | 3, 1 => 1
  | 3, 2 => 1
  | _, _ => 0
/-- in the p-th way of being equal, the numbers a and b are -/
def Eq3 (p a b : Nat) : Prop := grp p a = grp p b
theorem grp_ok : ∀ p, p < 5 → ∀ a, a < 3 → rov 102 (p * 3 + a) = nI (grp p a) := by decide +kernel
theorem grp_lt : ∀ p, p < 5 → ∀ a, a < 3 → grp p a < 3 := by decide +kernel
theorem nI_inj {a b : Nat} (ha : a < 2 ^ 31) (hb : b < 2 ^ 31) (h : nI a = nI b) : a = b := (nI_eq ha hb).mp h
/-- literals: 2 k is atom k, 2 k + 1 that it does not hold -/
def HL (s m : Nat) : Prop := (s.testBit (m / 2) = true) ↔ m % 2 = 0
theorem lit_h : ∀ m, m < 10 → (nI m >>> (1 &&& 31)) = nI (m / 2) ∧ (nI m &&& 1) = nI (m % 2) := by decide +kernel
theorem HL_iff {s m : Nat} (hs : s < 32) (hm : m < 10) : HL s m ↔ (((((nI s) >>> (((nI m) >>> (1 &&& 31)) &&& 31)) &&& 1) = 1) ↔ ((nI m) &&& 1) = 0) := by
  have h1 : ∀ m, m < 10 → ((nI (m % 2)) = 0 ↔ m % 2 = 0) := by decide +kernel
  rw [(lit_h m hm).1, (lit_h m hm).2, bitS1 hs (by omega), h1 m hm]
  rfl
theorem down {P : Nat → Prop} (N : Nat) (h : ∀ k, k ≤ N → (k < N → P (k + 1)) → P k) : ∀ k, k ≤ N → P k := by
  have key : ∀ r k, k + r = N → P k := by
    intro r
    induction r with
    | zero => intro k hk; exact h k (by omega) (fun q => by omega)
    | succ r ih => intro k hk; exact h k (by omega) (fun _ => ih (k + 1) (by omega))
  exact fun k hk => key (N - k) k (by omega)
theorem go_as {l : Launch} {ro : RO} {Y : MT} {n n' : Nat} {M M' : Mem} {pc : Nat} {L L' st st' : List Value} {Post : Option Value → Mem → Prop} (h : Go l ro Y n M pc L st n' Post) (eM : M' = M) (eL : L' = L) (es : st' = st) : Go l ro Y n M' pc L' st' n' Post := by
  subst eM; subst eL; subst es
  exact h
def pm (M1 : Mem) : Option Value → Mem → Prop := fun r M2 => r = none ∧ M2 = M1
theorem nx_eq {x y : Int32} {a b : Nat} (hx : x = nI a) (hy : y = nI b) (ha : a < 2 ^ 31) (hb : b < 2 ^ 31) : x = y ↔ a = b := by rw [hx, hy]; exact nI_eq ha hb
theorem nx_lt {x y : Int32} {a b : Nat} (hx : x = nI a) (hy : y = nI b) (ha : a < 2 ^ 31) (hb : b < 2 ^ 31) : x < y ↔ a < b := by rw [hx, hy]; exact nI_ltI ha hb
theorem nx_le {x y : Int32} {a b : Nat} (hx : x = nI a) (hy : y = nI b) (ha : a < 2 ^ 31) (hb : b < 2 ^ 31) : x ≤ y ↔ a ≤ b := by rw [hx, hy]; exact nI_leI ha hb
theorem Eq3_iff {p a b : Nat} (hp : p < 5) (ha : a < 3) (hb : b < 3) : Eq3 p a b ↔ rov 102 (p * 3 + a) = rov 102 (p * 3 + b) := by
  rw [grp_ok p hp a ha, grp_ok p hp b hb, nI_eq (Nat.lt_trans (grp_lt p hp a ha) (by decide)) (Nat.lt_trans (grp_lt p hp b hb) (by decide))]
  rfl
end
section
set_option maxRecDepth 100000 in
set_option maxHeartbeats 4000000 in
theorem s_X5_isWithin (l : Launch) (A : Nat → Nat → Int32) (G : Nat → Nat → Int64) (v b : Int32) : Sem l mX5_isWithin [.int v, .int b] 27 (A, G, PF) 27 (pv (bi (-b ≤ v ∧ v ≤ b)) (A, G, PF)) := by
  refine sem_of_go (by decide) rfl (by decide) (by decide) rfl (Nat.le_of_ble_eq_true rfl) ?_
  show Go l ro0 mX5_isWithin 27 (A, G, PF) 0 [.int v, .int b] [] 27 (pv (bi (-b ≤ v ∧ v ≤ b)) (A, G, PF))
  refine go_blk (pc2 := 3) (L2 := [.int v, .int b]) (st2 := [.int (-b), .int v]) (M2 := (A, G, PF)) (hs2 := []) (C := True) [(.iload_n 0, 0, 0), (.iload_n 1, 0, 0), (.ineg, 0, 0)] [] (by decide +kernel) rfl trivial ?_
  refine go_cmp (cnd := .lt) (off := 12) 15 (by decide +kernel) (by decide) (fun (c1 : v < (-b)) => ?_) (fun (c1 : ¬ v < (-b)) => ?_)
  · skip
    refine go_blk (pc2 := 16) (L2 := [.int v, .int b]) (st2 := [.int 0]) (M2 := (A, G, PF)) (hs2 := []) (C := True) [(.iconst 0, 0, 0)] [] (by decide +kernel) rfl trivial ?_
    exact go_retz (by decide +kernel) rfl (Or.inl rfl) (pv0 (by grind))
  · skip
    refine go_blk (pc2 := 8) (L2 := [.int v, .int b]) (st2 := [.int b, .int v]) (M2 := (A, G, PF)) (hs2 := []) (C := True) [(.iload_n 0, 0, 0), (.iload_n 1, 0, 0)] [] (by decide +kernel) rfl trivial ?_
    refine go_cmp (cnd := .gt) (off := 7) 15 (by decide +kernel) (by decide) (fun (c2 : b < v) => ?_) (fun (c2 : ¬ b < v) => ?_)
    · skip
      refine go_blk (pc2 := 16) (L2 := [.int v, .int b]) (st2 := [.int 0]) (M2 := (A, G, PF)) (hs2 := []) (C := True) [(.iconst 0, 0, 0)] [] (by decide +kernel) rfl trivial ?_
      exact go_retz (by decide +kernel) rfl (Or.inl rfl) (pv0 (by grind))
    · skip
      refine go_blk (pc2 := 12) (L2 := [.int v, .int b]) (st2 := [.int 1]) (M2 := (A, G, PF)) (hs2 := []) (C := True) [(.iconst 1, 0, 0)] [] (by decide +kernel) rfl trivial ?_
      refine go_goto (off := 4) 16 (by decide +kernel) (by decide) ?_
      exact go_retz (by decide +kernel) rfl (Or.inr rfl) (pv1 (by grind))
set_option maxRecDepth 100000 in
set_option maxHeartbeats 4000000 in
theorem s_X5_areFactors (l : Launch) (A : Nat → Nat → Int32) (G : Nat → Nat → Int64) (a b c : Int32) : Sem l mX5_areFactors [.int a, .int b, .int c] 27 (A, G, PF) 27 (pv (bi (f9 a ∧ f9 b ∧ f9 c)) (A, G, PF)) := by
  refine sem_of_go (by decide) rfl (by decide) (by decide) rfl (Nat.le_of_ble_eq_true rfl) ?_
  show Go l ro0 mX5_areFactors 27 (A, G, PF) 0 [.int a, .int b, .int c] [] 27 (pv (bi (f9 a ∧ f9 b ∧ f9 c)) (A, G, PF))
  refine go_blk (pc2 := 3) (L2 := [.int a, .int b, .int c]) (st2 := [.int 9, .int a]) (M2 := (A, G, PF)) (hs2 := []) (C := True) [(.iload_n 0, 0, 0), (.bipush 9, 0, 0)] [] (by decide +kernel) rfl trivial ?_
  refine go_call (Y2 := mX5_isWithin) (n2 := 27) (st := []) [] [.int a, .int 9] ck_5_132 cwX5_isWithin rfl (by decide +kernel) rfl (fun _ => rfl) (fun h => absurd rfl h) (Nat.le_of_ble_eq_true rfl) (Or.inl rfl) (fun _ _ _ h => h) (s_X5_isWithin l A G a 9) (fun v M2 hp1 => ?_)
  obtain ⟨rfl, rfl⟩ := hp1
  rcases Classical.em (-9 ≤ a ∧ a ≤ 9) with hb2 | hb2
  · rw [bi_t hb2]
    show Go l ro0 mX5_areFactors 27 (A, G, PF) 6 [.int a, .int b, .int c] [.int 1] 27 _
    refine go_ifz (cnd := .eq) (off := 25) 31 (by decide +kernel) (by decide) (fun (h : (1 : Int32) = 0) => absurd h (by decide)) (fun _ => ?_)
    refine go_blk (pc2 := 12) (L2 := [.int a, .int b, .int c]) (st2 := [.int 9, .int b]) (M2 := (A, G, PF)) (hs2 := []) (C := True) [(.iload_n 1, 0, 0), (.bipush 9, 0, 0)] [] (by decide +kernel) rfl trivial ?_
    refine go_call (Y2 := mX5_isWithin) (n2 := 27) (st := []) [] [.int b, .int 9] ck_5_132 cwX5_isWithin rfl (by decide +kernel) rfl (fun _ => rfl) (fun h => absurd rfl h) (Nat.le_of_ble_eq_true rfl) (Or.inl rfl) (fun _ _ _ h => h) (s_X5_isWithin l A G b 9) (fun v M2 hp3 => ?_)
    obtain ⟨rfl, rfl⟩ := hp3
    rcases Classical.em (-9 ≤ b ∧ b ≤ 9) with hb4 | hb4
    · rw [bi_t hb4]
      show Go l ro0 mX5_areFactors 27 (A, G, PF) 15 [.int a, .int b, .int c] [.int 1] 27 _
      refine go_ifz (cnd := .eq) (off := 16) 31 (by decide +kernel) (by decide) (fun (h : (1 : Int32) = 0) => absurd h (by decide)) (fun _ => ?_)
      refine go_blk (pc2 := 21) (L2 := [.int a, .int b, .int c]) (st2 := [.int 9, .int c]) (M2 := (A, G, PF)) (hs2 := []) (C := True) [(.iload_n 2, 0, 0), (.bipush 9, 0, 0)] [] (by decide +kernel) rfl trivial ?_
      refine go_call (Y2 := mX5_isWithin) (n2 := 27) (st := []) [] [.int c, .int 9] ck_5_132 cwX5_isWithin rfl (by decide +kernel) rfl (fun _ => rfl) (fun h => absurd rfl h) (Nat.le_of_ble_eq_true rfl) (Or.inl rfl) (fun _ _ _ h => h) (s_X5_isWithin l A G c 9) (fun v M2 hp5 => ?_)
      obtain ⟨rfl, rfl⟩ := hp5
      rcases Classical.em (-9 ≤ c ∧ c ≤ 9) with hb6 | hb6
      · rw [bi_t hb6]
        show Go l ro0 mX5_areFactors 27 (A, G, PF) 24 [.int a, .int b, .int c] [.int 1] 27 _
        refine go_ifz (cnd := .eq) (off := 7) 31 (by decide +kernel) (by decide) (fun (h : (1 : Int32) = 0) => absurd h (by decide)) (fun _ => ?_)
        refine go_blk (pc2 := 28) (L2 := [.int a, .int b, .int c]) (st2 := [.int 1]) (M2 := (A, G, PF)) (hs2 := []) (C := True) [(.iconst 1, 0, 0)] [] (by decide +kernel) rfl trivial ?_
        refine go_goto (off := 4) 32 (by decide +kernel) (by decide) ?_
        exact go_retz (by decide +kernel) rfl (Or.inr rfl) (pv1 (by simp only [f9] at *; grind))
      · rw [bi_f hb6]
        show Go l ro0 mX5_areFactors 27 (A, G, PF) 24 [.int a, .int b, .int c] [.int 0] 27 _
        refine go_ifz (cnd := .eq) (off := 7) 31 (by decide +kernel) (by decide) (fun _ => ?_) (fun (h : ¬ (0 : Int32) = 0) => absurd h (by decide))
        refine go_blk (pc2 := 32) (L2 := [.int a, .int b, .int c]) (st2 := [.int 0]) (M2 := (A, G, PF)) (hs2 := []) (C := True) [(.iconst 0, 0, 0)] [] (by decide +kernel) rfl trivial ?_
        exact go_retz (by decide +kernel) rfl (Or.inl rfl) (pv0 (by simp only [f9] at *; grind))
    · rw [bi_f hb4]
      show Go l ro0 mX5_areFactors 27 (A, G, PF) 15 [.int a, .int b, .int c] [.int 0] 27 _
      refine go_ifz (cnd := .eq) (off := 16) 31 (by decide +kernel) (by decide) (fun _ => ?_) (fun (h : ¬ (0 : Int32) = 0) => absurd h (by decide))
      refine go_blk (pc2 := 32) (L2 := [.int a, .int b, .int c]) (st2 := [.int 0]) (M2 := (A, G, PF)) (hs2 := []) (C := True) [(.iconst 0, 0, 0)] [] (by decide +kernel) rfl trivial ?_
      exact go_retz (by decide +kernel) rfl (Or.inl rfl) (pv0 (by simp only [f9] at *; grind))
  · rw [bi_f hb2]
    show Go l ro0 mX5_areFactors 27 (A, G, PF) 6 [.int a, .int b, .int c] [.int 0] 27 _
    refine go_ifz (cnd := .eq) (off := 25) 31 (by decide +kernel) (by decide) (fun _ => ?_) (fun (h : ¬ (0 : Int32) = 0) => absurd h (by decide))
    refine go_blk (pc2 := 32) (L2 := [.int a, .int b, .int c]) (st2 := [.int 0]) (M2 := (A, G, PF)) (hs2 := []) (C := True) [(.iconst 0, 0, 0)] [] (by decide +kernel) rfl trivial ?_
    exact go_retz (by decide +kernel) rfl (Or.inl rfl) (pv0 (by simp only [f9] at *; grind))
set_option maxRecDepth 100000 in
set_option maxHeartbeats 4000000 in
theorem s_X5_isLimit (l : Launch) (A : Nat → Nat → Int32) (G : Nat → Nat → Int64) (d : Int32) : Sem l mX5_isLimit [.int d] 27 (A, G, PF) 27 (pv (bi (f99 d)) (A, G, PF)) := by
  refine sem_of_go (by decide) rfl (by decide) (by decide) rfl (Nat.le_of_ble_eq_true rfl) ?_
  show Go l ro0 mX5_isLimit 27 (A, G, PF) 0 [.int d] [] 27 (pv (bi (f99 d)) (A, G, PF))
  refine go_blk (pc2 := 3) (L2 := [.int d]) (st2 := [.int 99, .int d]) (M2 := (A, G, PF)) (hs2 := []) (C := True) [(.iload_n 0, 0, 0), (.bipush 99, 0, 0)] [] (by decide +kernel) rfl trivial ?_
  refine go_call (Y2 := mX5_isWithin) (n2 := 27) (st := []) [] [.int d, .int 99] ck_5_132 cwX5_isWithin rfl (by decide +kernel) rfl (fun _ => rfl) (fun h => absurd rfl h) (Nat.le_of_ble_eq_true rfl) (Or.inl rfl) (fun _ _ _ h => h) (s_X5_isWithin l A G d 99) (fun v M2 hp1 => ?_)
  obtain ⟨rfl, rfl⟩ := hp1
  rcases Classical.em (-99 ≤ d ∧ d ≤ 99) with hb2 | hb2
  · rw [bi_t hb2]
    show Go l ro0 mX5_isLimit 27 (A, G, PF) 6 [.int d] [.int 1] 27 _
    exact go_retz (by decide +kernel) rfl (Or.inr rfl) (pv1 (by simp only [f99] at *; grind))
  · rw [bi_f hb2]
    show Go l ro0 mX5_isLimit 27 (A, G, PF) 6 [.int d] [.int 0] 27 _
    exact go_retz (by decide +kernel) rfl (Or.inl rfl) (pv0 (by simp only [f99] at *; grind))
set_option maxRecDepth 100000 in
set_option maxHeartbeats 4000000 in
theorem s_X5_isAtom (l : Launch) (A : Nat → Nat → Int32) (G : Nat → Nat → Int64) (k : Int32) : Sem l mX5_isAtom [.int k] 27 (A, G, PF) 27 (pv (bi (0 ≤ k ∧ k < 5)) (A, G, PF)) := by
  refine sem_of_go (by decide) rfl (by decide) (by decide) rfl (Nat.le_of_ble_eq_true rfl) ?_
  show Go l ro0 mX5_isAtom 27 (A, G, PF) 0 [.int k] [] 27 (pv (bi (0 ≤ k ∧ k < 5)) (A, G, PF))
  refine go_blk (pc2 := 1) (L2 := [.int k]) (st2 := [.int k]) (M2 := (A, G, PF)) (hs2 := []) (C := True) [(.iload_n 0, 0, 0)] [] (by decide +kernel) rfl trivial ?_
  refine go_ifz (cnd := .lt) (off := 12) 13 (by decide +kernel) (by decide) (fun (c1 : k < 0) => ?_) (fun (c1 : ¬ k < 0) => ?_)
  · skip
    refine go_blk (pc2 := 14) (L2 := [.int k]) (st2 := [.int 0]) (M2 := (A, G, PF)) (hs2 := []) (C := True) [(.iconst 0, 0, 0)] [] (by decide +kernel) rfl trivial ?_
    exact go_retz (by decide +kernel) rfl (Or.inl rfl) (pv0 (by grind))
  · skip
    refine go_blk (pc2 := 6) (L2 := [.int k]) (st2 := [.int 5, .int k]) (M2 := (A, G, PF)) (hs2 := []) (C := True) [(.iload_n 0, 0, 0), (.iconst 5, 0, 0)] [] (by decide +kernel) rfl trivial ?_
    refine go_cmp (cnd := .ge) (off := 7) 13 (by decide +kernel) (by decide) (fun (c2 : 5 ≤ k) => ?_) (fun (c2 : ¬ 5 ≤ k) => ?_)
    · skip
      refine go_blk (pc2 := 14) (L2 := [.int k]) (st2 := [.int 0]) (M2 := (A, G, PF)) (hs2 := []) (C := True) [(.iconst 0, 0, 0)] [] (by decide +kernel) rfl trivial ?_
      exact go_retz (by decide +kernel) rfl (Or.inl rfl) (pv0 (by grind))
    · skip
      refine go_blk (pc2 := 10) (L2 := [.int k]) (st2 := [.int 1]) (M2 := (A, G, PF)) (hs2 := []) (C := True) [(.iconst 1, 0, 0)] [] (by decide +kernel) rfl trivial ?_
      refine go_goto (off := 4) 14 (by decide +kernel) (by decide) ?_
      exact go_retz (by decide +kernel) rfl (Or.inr rfl) (pv1 (by grind))
set_option maxRecDepth 100000 in
set_option maxHeartbeats 4000000 in
theorem s_X5_isNumber (l : Launch) (A : Nat → Nat → Int32) (G : Nat → Nat → Int64) (k : Int32) : Sem l mX5_isNumber [.int k] 27 (A, G, PF) 27 (pv (bi (0 ≤ k ∧ k < 3)) (A, G, PF)) := by
  refine sem_of_go (by decide) rfl (by decide) (by decide) rfl (Nat.le_of_ble_eq_true rfl) ?_
  show Go l ro0 mX5_isNumber 27 (A, G, PF) 0 [.int k] [] 27 (pv (bi (0 ≤ k ∧ k < 3)) (A, G, PF))
  refine go_blk (pc2 := 1) (L2 := [.int k]) (st2 := [.int k]) (M2 := (A, G, PF)) (hs2 := []) (C := True) [(.iload_n 0, 0, 0)] [] (by decide +kernel) rfl trivial ?_
  refine go_ifz (cnd := .lt) (off := 12) 13 (by decide +kernel) (by decide) (fun (c1 : k < 0) => ?_) (fun (c1 : ¬ k < 0) => ?_)
  · skip
    refine go_blk (pc2 := 14) (L2 := [.int k]) (st2 := [.int 0]) (M2 := (A, G, PF)) (hs2 := []) (C := True) [(.iconst 0, 0, 0)] [] (by decide +kernel) rfl trivial ?_
    exact go_retz (by decide +kernel) rfl (Or.inl rfl) (pv0 (by grind))
  · skip
    refine go_blk (pc2 := 6) (L2 := [.int k]) (st2 := [.int 3, .int k]) (M2 := (A, G, PF)) (hs2 := []) (C := True) [(.iload_n 0, 0, 0), (.iconst 3, 0, 0)] [] (by decide +kernel) rfl trivial ?_
    refine go_cmp (cnd := .ge) (off := 7) 13 (by decide +kernel) (by decide) (fun (c2 : 3 ≤ k) => ?_) (fun (c2 : ¬ 3 ≤ k) => ?_)
    · skip
      refine go_blk (pc2 := 14) (L2 := [.int k]) (st2 := [.int 0]) (M2 := (A, G, PF)) (hs2 := []) (C := True) [(.iconst 0, 0, 0)] [] (by decide +kernel) rfl trivial ?_
      exact go_retz (by decide +kernel) rfl (Or.inl rfl) (pv0 (by grind))
    · skip
      refine go_blk (pc2 := 10) (L2 := [.int k]) (st2 := [.int 1]) (M2 := (A, G, PF)) (hs2 := []) (C := True) [(.iconst 1, 0, 0)] [] (by decide +kernel) rfl trivial ?_
      refine go_goto (off := 4) 14 (by decide +kernel) (by decide) ?_
      exact go_retz (by decide +kernel) rfl (Or.inr rfl) (pv1 (by grind))
set_option maxRecDepth 100000 in
set_option maxHeartbeats 4000000 in
theorem s_X5_side (l : Launch) (A : Nat → Nat → Int32) (G : Nat → Nat → Int64) (a b : Int32) : Sem l mX5_side [.int a, .int b] 27 (A, G, PF) 27 (pv (1 <<< ((a + b) &&& 31)) (A, G, PF)) := by
  refine sem_of_go (by decide) rfl (by decide) (by decide) rfl (Nat.le_of_ble_eq_true rfl) ?_
  show Go l ro0 mX5_side 27 (A, G, PF) 0 [.int a, .int b] [] 27 (pv (1 <<< ((a + b) &&& 31)) (A, G, PF))
  refine go_blk (pc2 := 5) (L2 := [.int a, .int b]) (st2 := [.int (1 <<< ((a + b) &&& 31))]) (M2 := (A, G, PF)) (hs2 := []) (C := True) [(.iconst 1, 0, 0), (.iload_n 0, 0, 0), (.iload_n 1, 0, 0), (.iadd, 0, 0), (.ishl, 0, 0)] [] (by decide +kernel) rfl trivial ?_
  exact go_reti (by decide +kernel) rfl (⟨rfl, rfl⟩)
set_option maxRecDepth 100000 in
set_option maxHeartbeats 4000000 in
theorem s_X5_onPlane (l : Launch) (A : Nat → Nat → Int32) (G : Nat → Nat → Int64) (b : Int32) : Sem l mX5_onPlane [.int b] 27 (A, G, PF) 27 (pv ((1 <<< ((0 + b) &&& 31)) ||| (1 <<< ((8 + b) &&& 31))) (A, G, PF)) := by
  refine sem_of_go (by decide) rfl (by decide) (by decide) rfl (Nat.le_of_ble_eq_true rfl) ?_
  show Go l ro0 mX5_onPlane 27 (A, G, PF) 0 [.int b] [] 27 (pv ((1 <<< ((0 + b) &&& 31)) ||| (1 <<< ((8 + b) &&& 31))) (A, G, PF))
  refine go_blk (pc2 := 12) (L2 := [.int b]) (st2 := [.int ((1 <<< ((0 + b) &&& 31)) ||| (1 <<< ((8 + b) &&& 31)))]) (M2 := (A, G, PF)) (hs2 := []) (C := True) [(.iconst 1, 0, 0), (.iconst 0, 0, 0), (.iload_n 0, 0, 0), (.iadd, 0, 0), (.ishl, 0, 0), (.iconst 1, 0, 0), (.bipush 8, 0, 0), (.iload_n 0, 0, 0), (.iadd, 0, 0), (.ishl, 0, 0), (.ior, 0, 0)] [] (by decide +kernel) rfl trivial ?_
  exact go_reti (by decide +kernel) rfl (⟨rfl, rfl⟩)
set_option maxRecDepth 100000 in
set_option maxHeartbeats 4000000 in
theorem s_X5_holdsIn (l : Launch) (A : Nat → Nat → Int32) (G : Nat → Nat → Int64) (s m : Nat) (x y : Int32) (hs : s < 32) (hm : m < 10) (hx : x = nI s) (hy : y = nI m) : Sem l mX5_holdsIn [.int x, .int y] 27 (A, G, PF) 27 (pv (bi (HL s m)) (A, G, PF)) := by
  refine sem_of_go (by decide) rfl (by decide) (by decide) rfl (Nat.le_of_ble_eq_true rfl) ?_
  show Go l ro0 mX5_holdsIn 27 (A, G, PF) 0 [.int x, .int y, .null] [] 27 (pv (bi (HL s m)) (A, G, PF))
  refine go_blk (pc2 := 8) (L2 := [.int x, .int y, .null]) (st2 := [.int 1, .int ((x >>> ((y >>> (1 &&& 31)) &&& 31)) &&& 1)]) (M2 := (A, G, PF)) (hs2 := []) (C := True) [(.iload_n 0, 0, 0), (.iload_n 1, 0, 0), (.iconst 1, 0, 0), (.ishr, 0, 0), (.ishr, 0, 0), (.iconst 1, 0, 0), (.iand, 0, 0), (.iconst 1, 0, 0)] [] (by decide +kernel) rfl trivial ?_
  refine go_cmp (cnd := .ne) (off := 7) 15 (by decide +kernel) (by decide) (fun (c1 : ¬ ((x >>> ((y >>> (1 &&& 31)) &&& 31)) &&& 1) = 1) => ?_) (fun (c1 : ((x >>> ((y >>> (1 &&& 31)) &&& 31)) &&& 1) = 1) => ?_)
  · skip
    refine go_blk (pc2 := 21) (L2 := [.int x, .int y, .int 0]) (st2 := [.int (y &&& 1), .int 0]) (M2 := (A, G, PF)) (hs2 := []) (C := True) [(.iconst 0, 0, 0), (.istore_n 2, 0, 0), (.iload_n 2, 0, 0), (.iload_n 1, 0, 0), (.iconst 1, 0, 0), (.iand, 0, 0)] [] (by decide +kernel) rfl trivial ?_
    refine go_ifz (cnd := .ne) (off := 7) 28 (by decide +kernel) (by decide) (fun (c2 : ¬ (y &&& 1) = 0) => ?_) (fun (c2 : (y &&& 1) = 0) => ?_)
    · skip
      refine go_blk (pc2 := 29) (L2 := [.int x, .int y, .int 0]) (st2 := [.int 0, .int 0]) (M2 := (A, G, PF)) (hs2 := []) (C := True) [(.iconst 0, 0, 0)] [] (by decide +kernel) rfl trivial ?_
      refine go_cmp (cnd := .ne) (off := 7) 36 (by decide +kernel) (by decide) (fun (h : ¬ (0 : Int32) = 0) => absurd h (by decide)) (fun _ => ?_)
      refine go_blk (pc2 := 33) (L2 := [.int x, .int y, .int 0]) (st2 := [.int 1]) (M2 := (A, G, PF)) (hs2 := []) (C := True) [(.iconst 1, 0, 0)] [] (by decide +kernel) rfl trivial ?_
      refine go_goto (off := 4) 37 (by decide +kernel) (by decide) ?_
      exact go_retz (by decide +kernel) rfl (Or.inr rfl) (pv1 (by rw [HL_iff hs hm, ← hx, ← hy]; simp_all))
    · skip
      refine go_blk (pc2 := 25) (L2 := [.int x, .int y, .int 0]) (st2 := [.int 1, .int 0]) (M2 := (A, G, PF)) (hs2 := []) (C := True) [(.iconst 1, 0, 0)] [] (by decide +kernel) rfl trivial ?_
      refine go_goto (off := 4) 29 (by decide +kernel) (by decide) ?_
      refine go_cmp (cnd := .ne) (off := 7) 36 (by decide +kernel) (by decide) (fun _ => ?_) (fun (h : (0 : Int32) = 1) => absurd h (by decide))
      refine go_blk (pc2 := 37) (L2 := [.int x, .int y, .int 0]) (st2 := [.int 0]) (M2 := (A, G, PF)) (hs2 := []) (C := True) [(.iconst 0, 0, 0)] [] (by decide +kernel) rfl trivial ?_
      exact go_retz (by decide +kernel) rfl (Or.inl rfl) (pv0 (by rw [HL_iff hs hm, ← hx, ← hy]; simp_all))
  · skip
    refine go_blk (pc2 := 12) (L2 := [.int x, .int y, .null]) (st2 := [.int 1]) (M2 := (A, G, PF)) (hs2 := []) (C := True) [(.iconst 1, 0, 0)] [] (by decide +kernel) rfl trivial ?_
    refine go_goto (off := 4) 16 (by decide +kernel) (by decide) ?_
    refine go_blk (pc2 := 21) (L2 := [.int x, .int y, .int 1]) (st2 := [.int (y &&& 1), .int 1]) (M2 := (A, G, PF)) (hs2 := []) (C := True) [(.istore_n 2, 0, 0), (.iload_n 2, 0, 0), (.iload_n 1, 0, 0), (.iconst 1, 0, 0), (.iand, 0, 0)] [] (by decide +kernel) rfl trivial ?_
    refine go_ifz (cnd := .ne) (off := 7) 28 (by decide +kernel) (by decide) (fun (c3 : ¬ (y &&& 1) = 0) => ?_) (fun (c3 : (y &&& 1) = 0) => ?_)
    · skip
      refine go_blk (pc2 := 29) (L2 := [.int x, .int y, .int 1]) (st2 := [.int 0, .int 1]) (M2 := (A, G, PF)) (hs2 := []) (C := True) [(.iconst 0, 0, 0)] [] (by decide +kernel) rfl trivial ?_
      refine go_cmp (cnd := .ne) (off := 7) 36 (by decide +kernel) (by decide) (fun _ => ?_) (fun (h : (1 : Int32) = 0) => absurd h (by decide))
      refine go_blk (pc2 := 37) (L2 := [.int x, .int y, .int 1]) (st2 := [.int 0]) (M2 := (A, G, PF)) (hs2 := []) (C := True) [(.iconst 0, 0, 0)] [] (by decide +kernel) rfl trivial ?_
      exact go_retz (by decide +kernel) rfl (Or.inl rfl) (pv0 (by rw [HL_iff hs hm, ← hx, ← hy]; simp_all))
    · skip
      refine go_blk (pc2 := 25) (L2 := [.int x, .int y, .int 1]) (st2 := [.int 1, .int 1]) (M2 := (A, G, PF)) (hs2 := []) (C := True) [(.iconst 1, 0, 0)] [] (by decide +kernel) rfl trivial ?_
      refine go_goto (off := 4) 29 (by decide +kernel) (by decide) ?_
      refine go_cmp (cnd := .ne) (off := 7) 36 (by decide +kernel) (by decide) (fun (h : ¬ (1 : Int32) = 1) => absurd h (by decide)) (fun _ => ?_)
      refine go_blk (pc2 := 33) (L2 := [.int x, .int y, .int 1]) (st2 := [.int 1]) (M2 := (A, G, PF)) (hs2 := []) (C := True) [(.iconst 1, 0, 0)] [] (by decide +kernel) rfl trivial ?_
      refine go_goto (off := 4) 37 (by decide +kernel) (by decide) ?_
      exact go_retz (by decide +kernel) rfl (Or.inr rfl) (pv1 (by rw [HL_iff hs hm, ← hx, ← hy]; simp_all))
set_option maxRecDepth 100000 in
set_option maxHeartbeats 4000000 in
theorem s_X5_areEqual (l : Launch) (A : Nat → Nat → Int32) (G : Nat → Nat → Int64) (p a b : Nat) (x y : Int32) (hp : p < 5) (ha : a < 3) (hb : b < 3) (hx : x = nI a) (hy : y = nI b) : Sem l mX5_areEqual [.int (nI p), .int x, .int y] 27 (A, G, PF) 27 (pv (bi (Eq3 p a b)) (A, G, PF)) := by
  refine sem_of_go (by decide) rfl (by decide) (by decide) rfl (Nat.le_of_ble_eq_true rfl) ?_
  show Go l ro0 mX5_areEqual 27 (A, G, PF) 0 [.int (nI p), .int x, .int y, .null, .null] [] 27 (pv (bi (Eq3 p a b)) (A, G, PF))
  refine go_blk (pc2 := 14) (L2 := [.int (nI p), .int x, .int y, .int (((nI p) * 3) + x), .int (((nI p) * 3) + y)]) (st2 := [.int (((nI p) * 3) + x)]) (M2 := (A, G, PF)) (hs2 := []) (C := True) [(.iload_n 0, 0, 0), (.iconst 3, 0, 0), (.imul, 0, 0), (.iload_n 1, 0, 0), (.iadd, 0, 0), (.istore_n 3, 0, 0), (.iload_n 0, 0, 0), (.iconst 3, 0, 0), (.imul, 0, 0), (.iload_n 2, 0, 0), (.iadd, 0, 0), (.istore 4, 0, 0), (.iload_n 3, 0, 0)] [] (by decide +kernel) rfl trivial ?_
  refine go_ifz (cnd := .lt) (off := 25) 39 (by decide +kernel) (by decide) (fun (h : (((nI p) * 3) + x) < 0) => absurd h (fun zz => absurd ((nx_lt (a := ((p * 3) + a)) (b := 0) (by first | rfl | (simp only [hx, nI, Int32.ofNat_add, Int32.ofNat_mul]; done) | (simp only [hx, nI, Int32.ofNat_add, Int32.ofNat_mul]; rfl)) rfl (by omega) (by omega)).mp zz) (by omega))) (fun _ => ?_)
  refine go_blk (pc2 := 22) (L2 := [.int (nI p), .int x, .int y, .int (((nI p) * 3) + x), .int (((nI p) * 3) + y)]) (st2 := [.int (nI 15), .int (((nI p) * 3) + x)]) (M2 := (A, G, PF)) (hs2 := []) (C := True) [(.iload_n 3, 0, 0), (.getstatic 135, 102, 0), (.arraylength, 0, 0)] [] (by decide +kernel) rfl trivial ?_
  refine go_cmp (cnd := .ge) (off := 17) 39 (by decide +kernel) (by decide) (fun (h : (nI 15) ≤ (((nI p) * 3) + x)) => absurd h (fun zz => absurd ((nx_le (a := 15) (b := ((p * 3) + a)) rfl (by first | rfl | (simp only [hx, nI, Int32.ofNat_add, Int32.ofNat_mul]; done) | (simp only [hx, nI, Int32.ofNat_add, Int32.ofNat_mul]; rfl)) (by omega) (by omega)).mp zz) (by omega))) (fun _ => ?_)
  refine go_blk (pc2 := 27) (L2 := [.int (nI p), .int x, .int y, .int (((nI p) * 3) + x), .int (((nI p) * 3) + y)]) (st2 := [.int (((nI p) * 3) + y)]) (M2 := (A, G, PF)) (hs2 := []) (C := True) [(.iload 4, 0, 0)] [] (by decide +kernel) rfl trivial ?_
  refine go_ifz (cnd := .lt) (off := 12) 39 (by decide +kernel) (by decide) (fun (h : (((nI p) * 3) + y) < 0) => absurd h (fun zz => absurd ((nx_lt (a := ((p * 3) + b)) (b := 0) (by first | rfl | (simp only [hy, nI, Int32.ofNat_add, Int32.ofNat_mul]; done) | (simp only [hy, nI, Int32.ofNat_add, Int32.ofNat_mul]; rfl)) rfl (by omega) (by omega)).mp zz) (by omega))) (fun _ => ?_)
  refine go_blk (pc2 := 36) (L2 := [.int (nI p), .int x, .int y, .int (((nI p) * 3) + x), .int (((nI p) * 3) + y)]) (st2 := [.int (nI 15), .int (((nI p) * 3) + y)]) (M2 := (A, G, PF)) (hs2 := []) (C := True) [(.iload 4, 0, 0), (.getstatic 135, 102, 0), (.arraylength, 0, 0)] [] (by decide +kernel) rfl trivial ?_
  refine go_cmp (cnd := .lt) (off := 5) 41 (by decide +kernel) (by decide) (fun _ => ?_) (fun (h : ¬ (((nI p) * 3) + y) < (nI 15)) => absurd h (fun zz => zz ((nx_lt (a := ((p * 3) + b)) (b := 15) (by first | rfl | (simp only [hy, nI, Int32.ofNat_add, Int32.ofNat_mul]; done) | (simp only [hy, nI, Int32.ofNat_add, Int32.ofNat_mul]; rfl)) rfl (by omega) (by omega)).mpr (by omega))))
  refine go_blk (pc2 := 52) (L2 := [.int (nI p), .int x, .int y, .int (((nI p) * 3) + x), .int (((nI p) * 3) + y)]) (st2 := [.int (rov 102 ((p * 3) + b)), .int (rov 102 ((p * 3) + a))]) (M2 := (A, G, PF)) (hs2 := []) (C := ((((nI p) * 3) + x) = nI ((p * 3) + a) ∧ ((p * 3) + a) < 15) ∧ ((((nI p) * 3) + y) = nI ((p * 3) + b) ∧ ((p * 3) + b) < 15) ∧ True) [(.getstatic 135, 102, 0), (.iload_n 3, 0, 0), (.iaload, 0, 0), (.getstatic 135, 102, 0), (.iload 4, 0, 0), (.iaload, 0, 0)] [((p * 3) + a), ((p * 3) + b)] (by decide +kernel) rfl ⟨⟨(by first | rfl | (simp only [hx, nI, Int32.ofNat_add, Int32.ofNat_mul]; done) | (simp only [hx, nI, Int32.ofNat_add, Int32.ofNat_mul]; rfl)), by omega⟩, ⟨(by first | rfl | (simp only [hy, nI, Int32.ofNat_add, Int32.ofNat_mul]; done) | (simp only [hy, nI, Int32.ofNat_add, Int32.ofNat_mul]; rfl)), by omega⟩, trivial⟩ ?_
  refine go_cmp (cnd := .ne) (off := 7) 59 (by decide +kernel) (by decide) (fun (c1 : ¬ (rov 102 ((p * 3) + a)) = (rov 102 ((p * 3) + b))) => ?_) (fun (c1 : (rov 102 ((p * 3) + a)) = (rov 102 ((p * 3) + b))) => ?_)
  · skip
    refine go_blk (pc2 := 60) (L2 := [.int (nI p), .int x, .int y, .int (((nI p) * 3) + x), .int (((nI p) * 3) + y)]) (st2 := [.int 0]) (M2 := (A, G, PF)) (hs2 := []) (C := True) [(.iconst 0, 0, 0)] [] (by decide +kernel) rfl trivial ?_
    exact go_retz (by decide +kernel) rfl (Or.inl rfl) (pv0 (by rw [Eq3_iff hp ha hb]; simp_all))
  · skip
    refine go_blk (pc2 := 56) (L2 := [.int (nI p), .int x, .int y, .int (((nI p) * 3) + x), .int (((nI p) * 3) + y)]) (st2 := [.int 1]) (M2 := (A, G, PF)) (hs2 := []) (C := True) [(.iconst 1, 0, 0)] [] (by decide +kernel) rfl trivial ?_
    refine go_goto (off := 4) 60 (by decide +kernel) (by decide) ?_
    exact go_retz (by decide +kernel) rfl (Or.inr rfl) (pv1 (by rw [Eq3_iff hp ha hb]; simp_all))
end
section
def snd (A : Nat → Nat → Int32) (s : Nat) : Nat → Int32
  | 0 => 0
  | k + 1 => if A 2 k = 1 then snd A s k ||| (1 <<< (((if s.testBit k = true then 0 else 8) + nI k) &&& 31)) else if A 2 k = 2 ∧ s.testBit k = true then snd A s k ||| ((1 <<< ((0 + nI k) &&& 31)) ||| (1 <<< ((8 + nI k) &&& 31))) else snd A s k
def ssg (A : Nat → Nat → Int32) (s : Nat) : Nat → Int32
  | 0 => 0
  | k + 1 => if A 2 k = 1 ∧ ¬ s.testBit k = true then ssg A s k ||| (1 <<< ((16 + nI k) &&& 31)) else if A 2 k = 2 ∧ ¬ s.testBit k = true then ssg A s k ||| (1 <<< ((24 + nI k) &&& 31)) else ssg A s k
/-- the numbers that the t-th pair is of -/
def prt (o t : Nat) : Nat := match o, t with
  | 100, 2 => 1
  | 100, _ => 0
  | _, 0 => 1
  | _, _ => 2
theorem prt_ok : ∀ t, t < 3 → rov 100 t = nI (prt 100 t) ∧ rov 101 t = nI (prt 101 t) ∧ prt 100 t < 3 ∧ prt 101 t < 3 := by decide +kernel
def PEq (p t : Nat) : Prop := Eq3 p (prt 100 t) (prt 101 t)
noncomputable def pnd (p : Nat) : Nat → Int32
  | 0 => 0
  | t + 1 => @ite Int32 (PEq p t) (Classical.propDecidable _) (pnd p t ||| ((1 <<< ((0 + (5 + nI t)) &&& 31)) ||| (1 <<< ((8 + (5 + nI t)) &&& 31)))) (pnd p t)
noncomputable def psg (p : Nat) : Nat → Int32
  | 0 => 0
  | t + 1 => @ite Int32 (PEq p t) (Classical.propDecidable _) (psg p t) (psg p t ||| (1 <<< ((24 + (5 + nI t)) &&& 31)))
theorem pnd_t {p t : Nat} (h : PEq p t) : pnd p (t + 1) = (pnd p t ||| ((1 <<< ((0 + (5 + nI t)) &&& 31)) ||| (1 <<< ((8 + (5 + nI t)) &&& 31)))) := if_pos h
theorem pnd_f {p t : Nat} (h : ¬ PEq p t) : pnd p (t + 1) = pnd p t := if_neg h
theorem psg_t {p t : Nat} (h : PEq p t) : psg p (t + 1) = psg p t := if_pos h
theorem psg_f {p t : Nat} (h : ¬ PEq p t) : psg p (t + 1) = (psg p t ||| (1 <<< ((24 + (5 + nI t)) &&& 31))) := if_neg h
def fi (A : Nat → Nat → Int32) (k : Nat) : Nat := (A 7 k).toNatClampNeg
def fj (A : Nat → Nat → Int32) (k : Nat) : Nat := (A 8 k).toNatClampNeg
/-- the facts' numbers are in range -/
def FOk (A : Nat → Nat → Int32) : Prop := ∀ k, k < 5 → A 2 k = 3 → (fi A k < 3 ∧ A 7 k = nI (fi A k)) ∧ (fj A k < 3 ∧ A 8 k = nI (fj A k))
def Contr (A : Nat → Nat → Int32) (s p k m : Nat) : Prop := A 2 k = 3 ∧ A 2 m = 3 ∧ (s.testBit k = true ∨ s.testBit m = true) ∧ Eq3 p (fi A k) (fi A m) ∧ ¬ (Eq3 p (fj A k) (fj A m) ↔ (s.testBit k = true ∧ s.testBit m = true))
def HasF (A : Nat → Nat → Int32) (s p : Nat) : Prop := ∀ k, k < 5 → ∀ m, m < k → ¬ Contr A s p k m
theorem atm_in {k : Nat} (hk : k < 5) : 0 ≤ nI k ∧ nI k < 5 := ⟨nI_pos' (by omega), nI_lt hk (by decide)⟩
set_option maxRecDepth 100000 in
set_option maxHeartbeats 4000000 in
theorem s_X0_defined (l : Launch) (A : Nat → Nat → Int32) (G : Nat → Nat → Int64) : Sem l mX0_defined [.ref 1] 27 (A, G, PF) 27 (pv (A 1 7) (A, G, PF)) := by
  refine sem_of_go (by decide) rfl (by decide) (by decide) rfl (Nat.le_of_ble_eq_true rfl) ?_
  show Go l ro0 mX0_defined 27 (A, G, PF) 0 [.ref 1] [] 27 (pv (A 1 7) (A, G, PF))
  refine go_blk (pc2 := 4) (L2 := [.ref 1]) (st2 := [.int (A 1 7)]) (M2 := (A, G, PF)) (hs2 := []) (C := True) [(.aload_n 0, 0, 0), (.getfield 33, 0, 7)] [] (by decide +kernel) rfl trivial ?_
  exact go_reti (by decide +kernel) rfl (⟨rfl, rfl⟩)
set_option maxRecDepth 100000 in
set_option maxHeartbeats 4000000 in
theorem s_X0_setPlane (l : Launch) (A : Nat → Nat → Int32) (G : Nat → Nat → Int64) (kk : Nat) (hk : kk < 5) (a b c d : Int32) : Sem l mX0_setPlane [.ref 1, .int (nI kk), .int a, .int b, .int c, .int d] 27 (A, G, PF) 27 (pm ((u2 (u2 (u2 (u2 A 3 kk a) 4 kk b) 5 kk c) 6 kk d), G, PF)) := by
  refine sem_of_go (by decide) rfl (by decide) (by decide) rfl (Nat.le_of_ble_eq_true rfl) ?_
  show Go l ro0 mX0_setPlane 27 (A, G, PF) 0 [.ref 1, .int (nI kk), .int a, .int b, .int c, .int d] [] 27 (pm ((u2 (u2 (u2 (u2 A 3 kk a) 4 kk b) 5 kk c) 6 kk d), G, PF))
  refine go_blk (pc2 := 1) (L2 := [.ref 1, .int (nI kk), .int a, .int b, .int c, .int d]) (st2 := [.int (nI kk)]) (M2 := (A, G, PF)) (hs2 := []) (C := True) [(.iload_n 1, 0, 0)] [] (by decide +kernel) rfl trivial ?_
  refine go_call (Y2 := mX5_isAtom) (n2 := 27) (st := []) [] [.int (nI kk)] ck_0_37 cwX5_isAtom rfl (by decide +kernel) rfl (fun _ => rfl) (fun h => absurd rfl h) (Nat.le_of_ble_eq_true rfl) (Or.inl rfl) (fun _ _ _ h => h) (s_X5_isAtom l A G (nI kk)) (fun v M2 hp1 => ?_)
  obtain ⟨rfl, rfl⟩ := hp1
  rw [bi_t (atm_in (by omega))]
  show Go l ro0 mX0_setPlane 27 (A, G, PF) 4 [.ref 1, .int (nI kk), .int a, .int b, .int c, .int d] [.int 1] 27 _
  refine go_ifz (cnd := .eq) (off := 33) 37 (by decide +kernel) (by decide) (fun (h : (1 : Int32) = 0) => absurd h (by decide)) (fun _ => ?_)
  refine go_blk (pc2 := 37) (L2 := [.ref 1, .int (nI kk), .int a, .int b, .int c, .int d]) (st2 := []) (M2 := ((u2 (u2 (u2 (u2 A 3 kk a) 4 kk b) 5 kk c) 6 kk d), G, PF)) (hs2 := []) (C := ((nI kk) = nI kk ∧ kk < 5) ∧ ((nI kk) = nI kk ∧ kk < 5) ∧ ((nI kk) = nI kk ∧ kk < 5) ∧ ((nI kk) = nI kk ∧ kk < 5) ∧ True) [(.aload_n 0, 0, 0), (.getfield 15, 0, 1), (.iload_n 1, 0, 0), (.iload_n 2, 0, 0), (.iastore, 0, 0), (.aload_n 0, 0, 0), (.getfield 18, 0, 2), (.iload_n 1, 0, 0), (.iload_n 3, 0, 0), (.iastore, 0, 0), (.aload_n 0, 0, 0), (.getfield 21, 0, 3), (.iload_n 1, 0, 0), (.iload 4, 0, 0), (.iastore, 0, 0), (.aload_n 0, 0, 0), (.getfield 24, 0, 4), (.iload_n 1, 0, 0), (.iload 5, 0, 0), (.iastore, 0, 0)] [kk, kk, kk, kk] (by decide +kernel) rfl ⟨⟨rfl, by omega⟩, ⟨rfl, by omega⟩, ⟨rfl, by omega⟩, ⟨rfl, by omega⟩, trivial⟩ ?_
  exact go_retv (by decide +kernel) rfl (⟨rfl, rfl⟩)
set_option maxRecDepth 100000 in
set_option maxHeartbeats 4000000 in
theorem s_X0_defineLinear (l : Launch) (A : Nat → Nat → Int32) (G : Nat → Nat → Int64) (kk : Nat) (hk : kk < 5) (a b c d e : Int32) : Sem l mX0_defineLinear [.ref 1, .int (nI kk), .int a, .int b, .int c, .int d, .int e] 27 (A, G, PF) 27 (pm ((u2 (u2 (u2 (u2 (u2 (u2 A 3 kk a) 4 kk b) 5 kk c) 6 kk d) 2 kk (if e = 0 then 1 else 2)) 1 7 (A 1 7 ||| (1 <<< (nI kk &&& 31)))), G, PF)) := by
  refine sem_of_go (by decide) rfl (by decide) (by decide) rfl (Nat.le_of_ble_eq_true rfl) ?_
  show Go l ro0 mX0_defineLinear 27 (A, G, PF) 0 [.ref 1, .int (nI kk), .int a, .int b, .int c, .int d, .int e] [] 27 (pm ((u2 (u2 (u2 (u2 (u2 (u2 A 3 kk a) 4 kk b) 5 kk c) 6 kk d) 2 kk (if e = 0 then 1 else 2)) 1 7 (A 1 7 ||| (1 <<< (nI kk &&& 31)))), G, PF))
  refine go_blk (pc2 := 1) (L2 := [.ref 1, .int (nI kk), .int a, .int b, .int c, .int d, .int e]) (st2 := [.int (nI kk)]) (M2 := (A, G, PF)) (hs2 := []) (C := True) [(.iload_n 1, 0, 0)] [] (by decide +kernel) rfl trivial ?_
  refine go_call (Y2 := mX5_isAtom) (n2 := 27) (st := []) [] [.int (nI kk)] ck_0_37 cwX5_isAtom rfl (by decide +kernel) rfl (fun _ => rfl) (fun h => absurd rfl h) (Nat.le_of_ble_eq_true rfl) (Or.inl rfl) (fun _ _ _ h => h) (s_X5_isAtom l A G (nI kk)) (fun v M2 hp1 => ?_)
  obtain ⟨rfl, rfl⟩ := hp1
  rw [bi_t (atm_in (by omega))]
  show Go l ro0 mX0_defineLinear 27 (A, G, PF) 4 [.ref 1, .int (nI kk), .int a, .int b, .int c, .int d, .int e] [.int 1] 27 _
  refine go_ifz (cnd := .ne) (off := 4) 8 (by decide +kernel) (by decide) (fun _ => ?_) (fun (h : (1 : Int32) = 0) => absurd h (by decide))
  refine go_blk (pc2 := 16) (L2 := [.ref 1, .int (nI kk), .int a, .int b, .int c, .int d, .int e]) (st2 := [.int d, .int c, .int b, .int a, .int (nI kk), .ref 1]) (M2 := (A, G, PF)) (hs2 := []) (C := True) [(.aload_n 0, 0, 0), (.iload_n 1, 0, 0), (.iload_n 2, 0, 0), (.iload_n 3, 0, 0), (.iload 4, 0, 0), (.iload 5, 0, 0)] [] (by decide +kernel) rfl trivial ?_
  refine go_call (Y2 := mX0_setPlane) (n2 := 27) (st := []) [.ref 1] [.int (nI kk), .int a, .int b, .int c, .int d] ck_0_41 cwX0_setPlane rfl (by decide +kernel) rfl (fun h => absurd h (by decide)) (fun _ => ⟨1, rfl, by decide, rfl⟩) (Nat.le_of_ble_eq_true rfl) (Or.inl rfl) (fun _ _ _ h => h) (s_X0_setPlane l A G kk hk a b c d) (fun v M2 hp2 => ?_)
  obtain ⟨rfl, rfl⟩ := hp2
  show Go l ro0 mX0_defineLinear 27 ((u2 (u2 (u2 (u2 A 3 kk a) 4 kk b) 5 kk c) 6 kk d), G, PF) 19 [.ref 1, .int (nI kk), .int a, .int b, .int c, .int d, .int e] [] 27 _
  refine go_blk (pc2 := 26) (L2 := [.ref 1, .int (nI kk), .int a, .int b, .int c, .int d, .int e]) (st2 := [.int e, .int (nI kk), .ref 2]) (M2 := ((u2 (u2 (u2 (u2 A 3 kk a) 4 kk b) 5 kk c) 6 kk d), G, PF)) (hs2 := []) (C := True) [(.aload_n 0, 0, 0), (.getfield 9, 0, 0), (.iload_n 1, 0, 0), (.iload 6, 0, 0)] [] (by decide +kernel) rfl trivial ?_
  refine go_ifz (cnd := .eq) (off := 7) 33 (by decide +kernel) (by decide) (fun (c3 : e = 0) => ?_) (fun (c3 : ¬ e = 0) => ?_)
  · skip
    refine go_blk (pc2 := 47) (L2 := [.ref 1, .int (nI kk), .int a, .int b, .int c, .int d, .int e]) (st2 := []) (M2 := ((u2 (u2 (u2 (u2 (u2 (u2 A 3 kk a) 4 kk b) 5 kk c) 6 kk d) 2 kk 1) 1 7 ((A 1 7) ||| (1 <<< ((nI kk) &&& 31)))), G, PF)) (hs2 := []) (C := ((nI kk) = nI kk ∧ kk < 5) ∧ True) [(.iconst 1, 0, 0), (.iastore, 0, 0), (.aload_n 0, 0, 0), (.dup, 0, 0), (.getfield 33, 0, 7), (.iconst 1, 0, 0), (.iload_n 1, 0, 0), (.ishl, 0, 0), (.ior, 0, 0), (.putfield 33, 0, 7)] [kk] (by decide +kernel) rfl ⟨⟨rfl, by omega⟩, trivial⟩ ?_
    exact go_retv (by decide +kernel) rfl (⟨rfl, by simp [*]⟩)
  · skip
    refine go_blk (pc2 := 30) (L2 := [.ref 1, .int (nI kk), .int a, .int b, .int c, .int d, .int e]) (st2 := [.int 2, .int (nI kk), .ref 2]) (M2 := ((u2 (u2 (u2 (u2 A 3 kk a) 4 kk b) 5 kk c) 6 kk d), G, PF)) (hs2 := []) (C := True) [(.iconst 2, 0, 0)] [] (by decide +kernel) rfl trivial ?_
    refine go_goto (off := 4) 34 (by decide +kernel) (by decide) ?_
    refine go_blk (pc2 := 47) (L2 := [.ref 1, .int (nI kk), .int a, .int b, .int c, .int d, .int e]) (st2 := []) (M2 := ((u2 (u2 (u2 (u2 (u2 (u2 A 3 kk a) 4 kk b) 5 kk c) 6 kk d) 2 kk 2) 1 7 ((A 1 7) ||| (1 <<< ((nI kk) &&& 31)))), G, PF)) (hs2 := []) (C := ((nI kk) = nI kk ∧ kk < 5) ∧ True) [(.iastore, 0, 0), (.aload_n 0, 0, 0), (.dup, 0, 0), (.getfield 33, 0, 7), (.iconst 1, 0, 0), (.iload_n 1, 0, 0), (.ishl, 0, 0), (.ior, 0, 0), (.putfield 33, 0, 7)] [kk] (by decide +kernel) rfl ⟨⟨rfl, by omega⟩, trivial⟩ ?_
    exact go_retv (by decide +kernel) rfl (⟨rfl, by simp [*]⟩)
set_option maxRecDepth 100000 in
set_option maxHeartbeats 4000000 in
theorem s_X0_defineFact (l : Launch) (A : Nat → Nat → Int32) (G : Nat → Nat → Int64) (kk : Nat) (hk : kk < 5) (i j : Int32) : Sem l mX0_defineFact [.ref 1, .int (nI kk), .int i, .int j] 27 (A, G, PF) 27 (pm ((u2 (u2 (u2 (u2 (u2 (u2 (u2 (u2 A 3 kk 0) 4 kk 0) 5 kk 0) 6 kk 0) 2 kk 3) 7 kk i) 8 kk j) 1 7 (A 1 7 ||| (1 <<< (nI kk &&& 31)))), G, PF)) := by
  refine sem_of_go (by decide) rfl (by decide) (by decide) rfl (Nat.le_of_ble_eq_true rfl) ?_
  show Go l ro0 mX0_defineFact 27 (A, G, PF) 0 [.ref 1, .int (nI kk), .int i, .int j] [] 27 (pm ((u2 (u2 (u2 (u2 (u2 (u2 (u2 (u2 A 3 kk 0) 4 kk 0) 5 kk 0) 6 kk 0) 2 kk 3) 7 kk i) 8 kk j) 1 7 (A 1 7 ||| (1 <<< (nI kk &&& 31)))), G, PF))
  refine go_blk (pc2 := 1) (L2 := [.ref 1, .int (nI kk), .int i, .int j]) (st2 := [.int (nI kk)]) (M2 := (A, G, PF)) (hs2 := []) (C := True) [(.iload_n 1, 0, 0)] [] (by decide +kernel) rfl trivial ?_
  refine go_call (Y2 := mX5_isAtom) (n2 := 27) (st := []) [] [.int (nI kk)] ck_0_37 cwX5_isAtom rfl (by decide +kernel) rfl (fun _ => rfl) (fun h => absurd rfl h) (Nat.le_of_ble_eq_true rfl) (Or.inl rfl) (fun _ _ _ h => h) (s_X5_isAtom l A G (nI kk)) (fun v M2 hp1 => ?_)
  obtain ⟨rfl, rfl⟩ := hp1
  rw [bi_t (atm_in (by omega))]
  show Go l ro0 mX0_defineFact 27 (A, G, PF) 4 [.ref 1, .int (nI kk), .int i, .int j] [.int 1] 27 _
  refine go_ifz (cnd := .ne) (off := 4) 8 (by decide +kernel) (by decide) (fun _ => ?_) (fun (h : (1 : Int32) = 0) => absurd h (by decide))
  refine go_blk (pc2 := 14) (L2 := [.ref 1, .int (nI kk), .int i, .int j]) (st2 := [.int 0, .int 0, .int 0, .int 0, .int (nI kk), .ref 1]) (M2 := (A, G, PF)) (hs2 := []) (C := True) [(.aload_n 0, 0, 0), (.iload_n 1, 0, 0), (.iconst 0, 0, 0), (.iconst 0, 0, 0), (.iconst 0, 0, 0), (.iconst 0, 0, 0)] [] (by decide +kernel) rfl trivial ?_
  refine go_call (Y2 := mX0_setPlane) (n2 := 27) (st := []) [.ref 1] [.int (nI kk), .int 0, .int 0, .int 0, .int 0] ck_0_41 cwX0_setPlane rfl (by decide +kernel) rfl (fun h => absurd h (by decide)) (fun _ => ⟨1, rfl, by decide, rfl⟩) (Nat.le_of_ble_eq_true rfl) (Or.inl rfl) (fun _ _ _ h => h) (s_X0_setPlane l A G kk hk 0 0 0 0) (fun v M2 hp2 => ?_)
  obtain ⟨rfl, rfl⟩ := hp2
  show Go l ro0 mX0_defineFact 27 ((u2 (u2 (u2 (u2 A 3 kk 0) 4 kk 0) 5 kk 0) 6 kk 0), G, PF) 17 [.ref 1, .int (nI kk), .int i, .int j] [] 27 _
  refine go_blk (pc2 := 50) (L2 := [.ref 1, .int (nI kk), .int i, .int j]) (st2 := []) (M2 := ((u2 (u2 (u2 (u2 (u2 (u2 (u2 (u2 A 3 kk 0) 4 kk 0) 5 kk 0) 6 kk 0) 2 kk 3) 7 kk i) 8 kk j) 1 7 ((A 1 7) ||| (1 <<< ((nI kk) &&& 31)))), G, PF)) (hs2 := []) (C := ((nI kk) = nI kk ∧ kk < 5) ∧ ((nI kk) = nI kk ∧ kk < 5) ∧ ((nI kk) = nI kk ∧ kk < 5) ∧ True) [(.aload_n 0, 0, 0), (.getfield 9, 0, 0), (.iload_n 1, 0, 0), (.iconst 3, 0, 0), (.iastore, 0, 0), (.aload_n 0, 0, 0), (.getfield 27, 0, 5), (.iload_n 1, 0, 0), (.iload_n 2, 0, 0), (.iastore, 0, 0), (.aload_n 0, 0, 0), (.getfield 30, 0, 6), (.iload_n 1, 0, 0), (.iload_n 3, 0, 0), (.iastore, 0, 0), (.aload_n 0, 0, 0), (.dup, 0, 0), (.getfield 33, 0, 7), (.iconst 1, 0, 0), (.iload_n 1, 0, 0), (.ishl, 0, 0), (.ior, 0, 0), (.putfield 33, 0, 7)] [kk, kk, kk] (by decide +kernel) rfl ⟨⟨rfl, by omega⟩, ⟨rfl, by omega⟩, ⟨rfl, by omega⟩, trivial⟩ ?_
  exact go_retv (by decide +kernel) rfl (⟨rfl, rfl⟩)
set_option maxRecDepth 100000 in
set_option maxHeartbeats 4000000 in
theorem lp_X0_sidesNeeded (l : Launch) (A : Nat → Nat → Int32) (G : Nat → Nat → Int64) (s : Nat) (hs : s < 32) : ∀ k, k ≤ 5 → ∀ (j : Value), Go l ro0 mX0_sidesNeeded 27 (A, G, PF) 4 [.ref 1, .int (nI s), .int (snd A s k), .int (nI k), j] [] 27 (pv (snd A s 5) (A, G, PF)) := by
  refine down 5 (fun k hk ih j => ?_)
  refine go_blk (pc2 := 6) (L2 := [.ref 1, .int (nI s), .int (snd A s k), .int (nI k), j]) (st2 := [.int 5, .int (nI k)]) (M2 := (A, G, PF)) (hs2 := []) (C := True) [(.iload_n 3, 0, 0), (.iconst 5, 0, 0)] [] (by decide +kernel) rfl trivial ?_
  refine go_cmp (cnd := .ge) (off := 78) 84 (by decide +kernel) (by decide) (fun (c1 : 5 ≤ (nI k)) => ?_) (fun (c1 : ¬ 5 ≤ (nI k)) => ?_)
  · skip
    replace c1 : 5 ≤ k := (nx_le (a := 5) (b := k) rfl rfl (by omega) (by omega)).mp c1
    refine go_blk (pc2 := 85) (L2 := [.ref 1, .int (nI s), .int (snd A s k), .int (nI k), j]) (st2 := [.int (snd A s k)]) (M2 := (A, G, PF)) (hs2 := []) (C := True) [(.iload_n 2, 0, 0)] [] (by decide +kernel) rfl trivial ?_
    exact go_reti (by decide +kernel) rfl (pve (by rw [show k = 5 by omega]))
  · skip
    replace c1 : ¬ 5 ≤ k := fun zz => c1 ((nx_le (a := 5) (b := k) rfl rfl (by omega) (by omega)).mpr zz)
    refine go_blk (pc2 := 15) (L2 := [.ref 1, .int (nI s), .int (snd A s k), .int (nI k), j]) (st2 := [.int 1, .int (((nI s) >>> ((nI k) &&& 31)) &&& 1)]) (M2 := (A, G, PF)) (hs2 := []) (C := True) [(.iload_n 1, 0, 0), (.iload_n 3, 0, 0), (.ishr, 0, 0), (.iconst 1, 0, 0), (.iand, 0, 0), (.iconst 1, 0, 0)] [] (by decide +kernel) rfl trivial ?_
    refine go_cmp (cnd := .ne) (off := 7) 22 (by decide +kernel) (by decide) (fun (c2 : ¬ (((nI s) >>> ((nI k) &&& 31)) &&& 1) = 1) => ?_) (fun (c2 : (((nI s) >>> ((nI k) &&& 31)) &&& 1) = 1) => ?_)
    · skip
      rw [bitS1 hs (by omega)] at c2
      refine go_blk (pc2 := 32) (L2 := [.ref 1, .int (nI s), .int (snd A s k), .int (nI k), .int 0]) (st2 := [.int 1, .int (A 2 k)]) (M2 := (A, G, PF)) (hs2 := []) (C := ((nI k) = nI k ∧ k < 5) ∧ True) [(.iconst 0, 0, 0), (.istore 4, 0, 0), (.aload_n 0, 0, 0), (.getfield 9, 0, 0), (.iload_n 3, 0, 0), (.iaload, 0, 0), (.iconst 1, 0, 0)] [k] (by decide +kernel) rfl ⟨⟨rfl, by omega⟩, trivial⟩ ?_
      refine go_cmp (cnd := .ne) (off := 24) 56 (by decide +kernel) (by decide) (fun (c3 : ¬ (A 2 k) = 1) => ?_) (fun (c3 : (A 2 k) = 1) => ?_)
      · skip
        refine go_blk (pc2 := 63) (L2 := [.ref 1, .int (nI s), .int (snd A s k), .int (nI k), .int 0]) (st2 := [.int 2, .int (A 2 k)]) (M2 := (A, G, PF)) (hs2 := []) (C := ((nI k) = nI k ∧ k < 5) ∧ True) [(.aload_n 0, 0, 0), (.getfield 9, 0, 0), (.iload_n 3, 0, 0), (.iaload, 0, 0), (.iconst 2, 0, 0)] [k] (by decide +kernel) rfl ⟨⟨rfl, by omega⟩, trivial⟩ ?_
        refine go_cmp (cnd := .ne) (off := 15) 78 (by decide +kernel) (by decide) (fun (c4 : ¬ (A 2 k) = 2) => ?_) (fun (c4 : (A 2 k) = 2) => ?_)
        · skip
          refine go_blk (pc2 := 81) (L2 := [.ref 1, .int (nI s), .int (snd A s k), .int ((nI k) + 1), .int 0]) (st2 := []) (M2 := (A, G, PF)) (hs2 := []) (C := True) [(.iinc 3 1, 0, 0)] [] (by decide +kernel) rfl trivial ?_
          refine go_goto (off := -77) 4 (by decide +kernel) (by decide) ?_
          exact go_as (ih (by omega) (.int 0)) rfl (by simp [snd, nI_1, *]) rfl
        · skip
          refine go_blk (pc2 := 68) (L2 := [.ref 1, .int (nI s), .int (snd A s k), .int (nI k), .int 0]) (st2 := [.int 0]) (M2 := (A, G, PF)) (hs2 := []) (C := True) [(.iload 4, 0, 0)] [] (by decide +kernel) rfl trivial ?_
          refine go_ifz (cnd := .eq) (off := 10) 78 (by decide +kernel) (by decide) (fun _ => ?_) (fun (h : ¬ (0 : Int32) = 0) => absurd h (by decide))
          refine go_blk (pc2 := 81) (L2 := [.ref 1, .int (nI s), .int (snd A s k), .int ((nI k) + 1), .int 0]) (st2 := []) (M2 := (A, G, PF)) (hs2 := []) (C := True) [(.iinc 3 1, 0, 0)] [] (by decide +kernel) rfl trivial ?_
          refine go_goto (off := -77) 4 (by decide +kernel) (by decide) ?_
          exact go_as (ih (by omega) (.int 0)) rfl (by simp [snd, nI_1, *]) rfl
      · skip
        refine go_blk (pc2 := 38) (L2 := [.ref 1, .int (nI s), .int (snd A s k), .int (nI k), .int 0]) (st2 := [.int 0, .int (snd A s k)]) (M2 := (A, G, PF)) (hs2 := []) (C := True) [(.iload_n 2, 0, 0), (.iload 4, 0, 0)] [] (by decide +kernel) rfl trivial ?_
        refine go_ifz (cnd := .eq) (off := 7) 45 (by decide +kernel) (by decide) (fun _ => ?_) (fun (h : ¬ (0 : Int32) = 0) => absurd h (by decide))
        refine go_blk (pc2 := 48) (L2 := [.ref 1, .int (nI s), .int (snd A s k), .int (nI k), .int 0]) (st2 := [.int (nI k), .int 8, .int (snd A s k)]) (M2 := (A, G, PF)) (hs2 := []) (C := True) [(.bipush 8, 0, 0), (.iload_n 3, 0, 0)] [] (by decide +kernel) rfl trivial ?_
        refine go_call (Y2 := mX5_side) (n2 := 27) (st := [.int (snd A s k)]) [] [.int 8, .int (nI k)] ck_0_45 cwX5_side rfl (by decide +kernel) rfl (fun _ => rfl) (fun h => absurd rfl h) (Nat.le_of_ble_eq_true rfl) (Or.inl rfl) (fun _ _ _ h => h) (s_X5_side l A G 8 (nI k)) (fun v M2 hp5 => ?_)
        obtain ⟨rfl, rfl⟩ := hp5
        show Go l ro0 mX0_sidesNeeded 27 (A, G, PF) 51 [.ref 1, .int (nI s), .int (snd A s k), .int (nI k), .int 0] [.int (1 <<< ((8 + (nI k)) &&& 31)), .int (snd A s k)] 27 _
        refine go_blk (pc2 := 53) (L2 := [.ref 1, .int (nI s), .int ((snd A s k) ||| (1 <<< ((8 + (nI k)) &&& 31))), .int (nI k), .int 0]) (st2 := []) (M2 := (A, G, PF)) (hs2 := []) (C := True) [(.ior, 0, 0), (.istore_n 2, 0, 0)] [] (by decide +kernel) rfl trivial ?_
        refine go_goto (off := 25) 78 (by decide +kernel) (by decide) ?_
        refine go_blk (pc2 := 81) (L2 := [.ref 1, .int (nI s), .int ((snd A s k) ||| (1 <<< ((8 + (nI k)) &&& 31))), .int ((nI k) + 1), .int 0]) (st2 := []) (M2 := (A, G, PF)) (hs2 := []) (C := True) [(.iinc 3 1, 0, 0)] [] (by decide +kernel) rfl trivial ?_
        refine go_goto (off := -77) 4 (by decide +kernel) (by decide) ?_
        exact go_as (ih (by omega) (.int 0)) rfl (by simp [snd, nI_1, *]) rfl
    · skip
      rw [bitS1 hs (by omega)] at c2
      refine go_blk (pc2 := 19) (L2 := [.ref 1, .int (nI s), .int (snd A s k), .int (nI k), j]) (st2 := [.int 1]) (M2 := (A, G, PF)) (hs2 := []) (C := True) [(.iconst 1, 0, 0)] [] (by decide +kernel) rfl trivial ?_
      refine go_goto (off := 4) 23 (by decide +kernel) (by decide) ?_
      refine go_blk (pc2 := 32) (L2 := [.ref 1, .int (nI s), .int (snd A s k), .int (nI k), .int 1]) (st2 := [.int 1, .int (A 2 k)]) (M2 := (A, G, PF)) (hs2 := []) (C := ((nI k) = nI k ∧ k < 5) ∧ True) [(.istore 4, 0, 0), (.aload_n 0, 0, 0), (.getfield 9, 0, 0), (.iload_n 3, 0, 0), (.iaload, 0, 0), (.iconst 1, 0, 0)] [k] (by decide +kernel) rfl ⟨⟨rfl, by omega⟩, trivial⟩ ?_
      refine go_cmp (cnd := .ne) (off := 24) 56 (by decide +kernel) (by decide) (fun (c6 : ¬ (A 2 k) = 1) => ?_) (fun (c6 : (A 2 k) = 1) => ?_)
      · skip
        refine go_blk (pc2 := 63) (L2 := [.ref 1, .int (nI s), .int (snd A s k), .int (nI k), .int 1]) (st2 := [.int 2, .int (A 2 k)]) (M2 := (A, G, PF)) (hs2 := []) (C := ((nI k) = nI k ∧ k < 5) ∧ True) [(.aload_n 0, 0, 0), (.getfield 9, 0, 0), (.iload_n 3, 0, 0), (.iaload, 0, 0), (.iconst 2, 0, 0)] [k] (by decide +kernel) rfl ⟨⟨rfl, by omega⟩, trivial⟩ ?_
        refine go_cmp (cnd := .ne) (off := 15) 78 (by decide +kernel) (by decide) (fun (c7 : ¬ (A 2 k) = 2) => ?_) (fun (c7 : (A 2 k) = 2) => ?_)
        · skip
          refine go_blk (pc2 := 81) (L2 := [.ref 1, .int (nI s), .int (snd A s k), .int ((nI k) + 1), .int 1]) (st2 := []) (M2 := (A, G, PF)) (hs2 := []) (C := True) [(.iinc 3 1, 0, 0)] [] (by decide +kernel) rfl trivial ?_
          refine go_goto (off := -77) 4 (by decide +kernel) (by decide) ?_
          exact go_as (ih (by omega) (.int 1)) rfl (by simp [snd, nI_1, *]) rfl
        · skip
          refine go_blk (pc2 := 68) (L2 := [.ref 1, .int (nI s), .int (snd A s k), .int (nI k), .int 1]) (st2 := [.int 1]) (M2 := (A, G, PF)) (hs2 := []) (C := True) [(.iload 4, 0, 0)] [] (by decide +kernel) rfl trivial ?_
          refine go_ifz (cnd := .eq) (off := 10) 78 (by decide +kernel) (by decide) (fun (h : (1 : Int32) = 0) => absurd h (by decide)) (fun _ => ?_)
          refine go_blk (pc2 := 73) (L2 := [.ref 1, .int (nI s), .int (snd A s k), .int (nI k), .int 1]) (st2 := [.int (nI k), .int (snd A s k)]) (M2 := (A, G, PF)) (hs2 := []) (C := True) [(.iload_n 2, 0, 0), (.iload_n 3, 0, 0)] [] (by decide +kernel) rfl trivial ?_
          refine go_call (Y2 := mX5_onPlane) (n2 := 27) (st := [.int (snd A s k)]) [] [.int (nI k)] ck_0_49 cwX5_onPlane rfl (by decide +kernel) rfl (fun _ => rfl) (fun h => absurd rfl h) (Nat.le_of_ble_eq_true rfl) (Or.inl rfl) (fun _ _ _ h => h) (s_X5_onPlane l A G (nI k)) (fun v M2 hp8 => ?_)
          obtain ⟨rfl, rfl⟩ := hp8
          show Go l ro0 mX0_sidesNeeded 27 (A, G, PF) 76 [.ref 1, .int (nI s), .int (snd A s k), .int (nI k), .int 1] [.int ((1 <<< ((0 + (nI k)) &&& 31)) ||| (1 <<< ((8 + (nI k)) &&& 31))), .int (snd A s k)] 27 _
          refine go_blk (pc2 := 81) (L2 := [.ref 1, .int (nI s), .int ((snd A s k) ||| ((1 <<< ((0 + (nI k)) &&& 31)) ||| (1 <<< ((8 + (nI k)) &&& 31)))), .int ((nI k) + 1), .int 1]) (st2 := []) (M2 := (A, G, PF)) (hs2 := []) (C := True) [(.ior, 0, 0), (.istore_n 2, 0, 0), (.iinc 3 1, 0, 0)] [] (by decide +kernel) rfl trivial ?_
          refine go_goto (off := -77) 4 (by decide +kernel) (by decide) ?_
          exact go_as (ih (by omega) (.int 1)) rfl (by simp [snd, nI_1, *]) rfl
      · skip
        refine go_blk (pc2 := 38) (L2 := [.ref 1, .int (nI s), .int (snd A s k), .int (nI k), .int 1]) (st2 := [.int 1, .int (snd A s k)]) (M2 := (A, G, PF)) (hs2 := []) (C := True) [(.iload_n 2, 0, 0), (.iload 4, 0, 0)] [] (by decide +kernel) rfl trivial ?_
        refine go_ifz (cnd := .eq) (off := 7) 45 (by decide +kernel) (by decide) (fun (h : (1 : Int32) = 0) => absurd h (by decide)) (fun _ => ?_)
        refine go_blk (pc2 := 42) (L2 := [.ref 1, .int (nI s), .int (snd A s k), .int (nI k), .int 1]) (st2 := [.int 0, .int (snd A s k)]) (M2 := (A, G, PF)) (hs2 := []) (C := True) [(.iconst 0, 0, 0)] [] (by decide +kernel) rfl trivial ?_
        refine go_goto (off := 5) 47 (by decide +kernel) (by decide) ?_
        refine go_blk (pc2 := 48) (L2 := [.ref 1, .int (nI s), .int (snd A s k), .int (nI k), .int 1]) (st2 := [.int (nI k), .int 0, .int (snd A s k)]) (M2 := (A, G, PF)) (hs2 := []) (C := True) [(.iload_n 3, 0, 0)] [] (by decide +kernel) rfl trivial ?_
        refine go_call (Y2 := mX5_side) (n2 := 27) (st := [.int (snd A s k)]) [] [.int 0, .int (nI k)] ck_0_45 cwX5_side rfl (by decide +kernel) rfl (fun _ => rfl) (fun h => absurd rfl h) (Nat.le_of_ble_eq_true rfl) (Or.inl rfl) (fun _ _ _ h => h) (s_X5_side l A G 0 (nI k)) (fun v M2 hp9 => ?_)
        obtain ⟨rfl, rfl⟩ := hp9
        show Go l ro0 mX0_sidesNeeded 27 (A, G, PF) 51 [.ref 1, .int (nI s), .int (snd A s k), .int (nI k), .int 1] [.int (1 <<< ((0 + (nI k)) &&& 31)), .int (snd A s k)] 27 _
        refine go_blk (pc2 := 53) (L2 := [.ref 1, .int (nI s), .int ((snd A s k) ||| (1 <<< ((0 + (nI k)) &&& 31))), .int (nI k), .int 1]) (st2 := []) (M2 := (A, G, PF)) (hs2 := []) (C := True) [(.ior, 0, 0), (.istore_n 2, 0, 0)] [] (by decide +kernel) rfl trivial ?_
        refine go_goto (off := 25) 78 (by decide +kernel) (by decide) ?_
        refine go_blk (pc2 := 81) (L2 := [.ref 1, .int (nI s), .int ((snd A s k) ||| (1 <<< ((0 + (nI k)) &&& 31))), .int ((nI k) + 1), .int 1]) (st2 := []) (M2 := (A, G, PF)) (hs2 := []) (C := True) [(.iinc 3 1, 0, 0)] [] (by decide +kernel) rfl trivial ?_
        refine go_goto (off := -77) 4 (by decide +kernel) (by decide) ?_
        exact go_as (ih (by omega) (.int 1)) rfl (by simp [snd, nI_1, *]) rfl
set_option maxRecDepth 100000 in
set_option maxHeartbeats 4000000 in
theorem s_X0_sidesNeeded (l : Launch) (A : Nat → Nat → Int32) (G : Nat → Nat → Int64) (s : Nat) (hs : s < 32) : Sem l mX0_sidesNeeded [.ref 1, .int (nI s)] 27 (A, G, PF) 27 (pv (snd A s 5) (A, G, PF)) := by
  refine sem_of_go (by decide) rfl (by decide) (by decide) rfl (Nat.le_of_ble_eq_true rfl) ?_
  show Go l ro0 mX0_sidesNeeded 27 (A, G, PF) 0 [.ref 1, .int (nI s), .null, .null, .null] [] 27 (pv (snd A s 5) (A, G, PF))
  refine go_blk (pc2 := 4) (L2 := [.ref 1, .int (nI s), .int 0, .int 0, .null]) (st2 := []) (M2 := (A, G, PF)) (hs2 := []) (C := True) [(.iconst 0, 0, 0), (.istore_n 2, 0, 0), (.iconst 0, 0, 0), (.istore_n 3, 0, 0)] [] (by decide +kernel) rfl trivial ?_
  exact lp_X0_sidesNeeded l A G s hs 0 (by omega) _
set_option maxRecDepth 100000 in
set_option maxHeartbeats 4000000 in
theorem lp_X0_sidesSought (l : Launch) (A : Nat → Nat → Int32) (G : Nat → Nat → Int64) (s : Nat) (hs : s < 32) : ∀ k, k ≤ 5 → ∀ (j : Value), Go l ro0 mX0_sidesSought 27 (A, G, PF) 4 [.ref 1, .int (nI s), .int (ssg A s k), .int (nI k), j] [] 27 (pv (ssg A s 5) (A, G, PF)) := by
  refine down 5 (fun k hk ih j => ?_)
  refine go_blk (pc2 := 6) (L2 := [.ref 1, .int (nI s), .int (ssg A s k), .int (nI k), j]) (st2 := [.int 5, .int (nI k)]) (M2 := (A, G, PF)) (hs2 := []) (C := True) [(.iload_n 3, 0, 0), (.iconst 5, 0, 0)] [] (by decide +kernel) rfl trivial ?_
  refine go_cmp (cnd := .ge) (off := 76) 82 (by decide +kernel) (by decide) (fun (c1 : 5 ≤ (nI k)) => ?_) (fun (c1 : ¬ 5 ≤ (nI k)) => ?_)
  · skip
    replace c1 : 5 ≤ k := (nx_le (a := 5) (b := k) rfl rfl (by omega) (by omega)).mp c1
    refine go_blk (pc2 := 83) (L2 := [.ref 1, .int (nI s), .int (ssg A s k), .int (nI k), j]) (st2 := [.int (ssg A s k)]) (M2 := (A, G, PF)) (hs2 := []) (C := True) [(.iload_n 2, 0, 0)] [] (by decide +kernel) rfl trivial ?_
    exact go_reti (by decide +kernel) rfl (pve (by rw [show k = 5 by omega]))
  · skip
    replace c1 : ¬ 5 ≤ k := fun zz => c1 ((nx_le (a := 5) (b := k) rfl rfl (by omega) (by omega)).mpr zz)
    refine go_blk (pc2 := 15) (L2 := [.ref 1, .int (nI s), .int (ssg A s k), .int (nI k), j]) (st2 := [.int 1, .int (((nI s) >>> ((nI k) &&& 31)) &&& 1)]) (M2 := (A, G, PF)) (hs2 := []) (C := True) [(.iload_n 1, 0, 0), (.iload_n 3, 0, 0), (.ishr, 0, 0), (.iconst 1, 0, 0), (.iand, 0, 0), (.iconst 1, 0, 0)] [] (by decide +kernel) rfl trivial ?_
    refine go_cmp (cnd := .ne) (off := 7) 22 (by decide +kernel) (by decide) (fun (c2 : ¬ (((nI s) >>> ((nI k) &&& 31)) &&& 1) = 1) => ?_) (fun (c2 : (((nI s) >>> ((nI k) &&& 31)) &&& 1) = 1) => ?_)
    · skip
      rw [bitS1 hs (by omega)] at c2
      refine go_blk (pc2 := 32) (L2 := [.ref 1, .int (nI s), .int (ssg A s k), .int (nI k), .int 0]) (st2 := [.int 1, .int (A 2 k)]) (M2 := (A, G, PF)) (hs2 := []) (C := ((nI k) = nI k ∧ k < 5) ∧ True) [(.iconst 0, 0, 0), (.istore 4, 0, 0), (.aload_n 0, 0, 0), (.getfield 9, 0, 0), (.iload_n 3, 0, 0), (.iaload, 0, 0), (.iconst 1, 0, 0)] [k] (by decide +kernel) rfl ⟨⟨rfl, by omega⟩, trivial⟩ ?_
      refine go_cmp (cnd := .ne) (off := 20) 52 (by decide +kernel) (by decide) (fun (c3 : ¬ (A 2 k) = 1) => ?_) (fun (c3 : (A 2 k) = 1) => ?_)
      · skip
        refine go_blk (pc2 := 59) (L2 := [.ref 1, .int (nI s), .int (ssg A s k), .int (nI k), .int 0]) (st2 := [.int 2, .int (A 2 k)]) (M2 := (A, G, PF)) (hs2 := []) (C := ((nI k) = nI k ∧ k < 5) ∧ True) [(.aload_n 0, 0, 0), (.getfield 9, 0, 0), (.iload_n 3, 0, 0), (.iaload, 0, 0), (.iconst 2, 0, 0)] [k] (by decide +kernel) rfl ⟨⟨rfl, by omega⟩, trivial⟩ ?_
        refine go_cmp (cnd := .ne) (off := 17) 76 (by decide +kernel) (by decide) (fun (c4 : ¬ (A 2 k) = 2) => ?_) (fun (c4 : (A 2 k) = 2) => ?_)
        · skip
          refine go_blk (pc2 := 79) (L2 := [.ref 1, .int (nI s), .int (ssg A s k), .int ((nI k) + 1), .int 0]) (st2 := []) (M2 := (A, G, PF)) (hs2 := []) (C := True) [(.iinc 3 1, 0, 0)] [] (by decide +kernel) rfl trivial ?_
          refine go_goto (off := -75) 4 (by decide +kernel) (by decide) ?_
          exact go_as (ih (by omega) (.int 0)) rfl (by simp [ssg, nI_1, *]) rfl
        · skip
          refine go_blk (pc2 := 64) (L2 := [.ref 1, .int (nI s), .int (ssg A s k), .int (nI k), .int 0]) (st2 := [.int 0]) (M2 := (A, G, PF)) (hs2 := []) (C := True) [(.iload 4, 0, 0)] [] (by decide +kernel) rfl trivial ?_
          refine go_ifz (cnd := .ne) (off := 12) 76 (by decide +kernel) (by decide) (fun (h : ¬ (0 : Int32) = 0) => absurd h (by decide)) (fun _ => ?_)
          refine go_blk (pc2 := 71) (L2 := [.ref 1, .int (nI s), .int (ssg A s k), .int (nI k), .int 0]) (st2 := [.int (nI k), .int 24, .int (ssg A s k)]) (M2 := (A, G, PF)) (hs2 := []) (C := True) [(.iload_n 2, 0, 0), (.bipush 24, 0, 0), (.iload_n 3, 0, 0)] [] (by decide +kernel) rfl trivial ?_
          refine go_call (Y2 := mX5_side) (n2 := 27) (st := [.int (ssg A s k)]) [] [.int 24, .int (nI k)] ck_0_45 cwX5_side rfl (by decide +kernel) rfl (fun _ => rfl) (fun h => absurd rfl h) (Nat.le_of_ble_eq_true rfl) (Or.inl rfl) (fun _ _ _ h => h) (s_X5_side l A G 24 (nI k)) (fun v M2 hp5 => ?_)
          obtain ⟨rfl, rfl⟩ := hp5
          show Go l ro0 mX0_sidesSought 27 (A, G, PF) 74 [.ref 1, .int (nI s), .int (ssg A s k), .int (nI k), .int 0] [.int (1 <<< ((24 + (nI k)) &&& 31)), .int (ssg A s k)] 27 _
          refine go_blk (pc2 := 79) (L2 := [.ref 1, .int (nI s), .int ((ssg A s k) ||| (1 <<< ((24 + (nI k)) &&& 31))), .int ((nI k) + 1), .int 0]) (st2 := []) (M2 := (A, G, PF)) (hs2 := []) (C := True) [(.ior, 0, 0), (.istore_n 2, 0, 0), (.iinc 3 1, 0, 0)] [] (by decide +kernel) rfl trivial ?_
          refine go_goto (off := -75) 4 (by decide +kernel) (by decide) ?_
          exact go_as (ih (by omega) (.int 0)) rfl (by simp [ssg, nI_1, *]) rfl
      · skip
        refine go_blk (pc2 := 37) (L2 := [.ref 1, .int (nI s), .int (ssg A s k), .int (nI k), .int 0]) (st2 := [.int 0]) (M2 := (A, G, PF)) (hs2 := []) (C := True) [(.iload 4, 0, 0)] [] (by decide +kernel) rfl trivial ?_
        refine go_ifz (cnd := .ne) (off := 15) 52 (by decide +kernel) (by decide) (fun (h : ¬ (0 : Int32) = 0) => absurd h (by decide)) (fun _ => ?_)
        refine go_blk (pc2 := 44) (L2 := [.ref 1, .int (nI s), .int (ssg A s k), .int (nI k), .int 0]) (st2 := [.int (nI k), .int 16, .int (ssg A s k)]) (M2 := (A, G, PF)) (hs2 := []) (C := True) [(.iload_n 2, 0, 0), (.bipush 16, 0, 0), (.iload_n 3, 0, 0)] [] (by decide +kernel) rfl trivial ?_
        refine go_call (Y2 := mX5_side) (n2 := 27) (st := [.int (ssg A s k)]) [] [.int 16, .int (nI k)] ck_0_45 cwX5_side rfl (by decide +kernel) rfl (fun _ => rfl) (fun h => absurd rfl h) (Nat.le_of_ble_eq_true rfl) (Or.inl rfl) (fun _ _ _ h => h) (s_X5_side l A G 16 (nI k)) (fun v M2 hp6 => ?_)
        obtain ⟨rfl, rfl⟩ := hp6
        show Go l ro0 mX0_sidesSought 27 (A, G, PF) 47 [.ref 1, .int (nI s), .int (ssg A s k), .int (nI k), .int 0] [.int (1 <<< ((16 + (nI k)) &&& 31)), .int (ssg A s k)] 27 _
        refine go_blk (pc2 := 49) (L2 := [.ref 1, .int (nI s), .int ((ssg A s k) ||| (1 <<< ((16 + (nI k)) &&& 31))), .int (nI k), .int 0]) (st2 := []) (M2 := (A, G, PF)) (hs2 := []) (C := True) [(.ior, 0, 0), (.istore_n 2, 0, 0)] [] (by decide +kernel) rfl trivial ?_
        refine go_goto (off := 27) 76 (by decide +kernel) (by decide) ?_
        refine go_blk (pc2 := 79) (L2 := [.ref 1, .int (nI s), .int ((ssg A s k) ||| (1 <<< ((16 + (nI k)) &&& 31))), .int ((nI k) + 1), .int 0]) (st2 := []) (M2 := (A, G, PF)) (hs2 := []) (C := True) [(.iinc 3 1, 0, 0)] [] (by decide +kernel) rfl trivial ?_
        refine go_goto (off := -75) 4 (by decide +kernel) (by decide) ?_
        exact go_as (ih (by omega) (.int 0)) rfl (by simp [ssg, nI_1, *]) rfl
    · skip
      rw [bitS1 hs (by omega)] at c2
      refine go_blk (pc2 := 19) (L2 := [.ref 1, .int (nI s), .int (ssg A s k), .int (nI k), j]) (st2 := [.int 1]) (M2 := (A, G, PF)) (hs2 := []) (C := True) [(.iconst 1, 0, 0)] [] (by decide +kernel) rfl trivial ?_
      refine go_goto (off := 4) 23 (by decide +kernel) (by decide) ?_
      refine go_blk (pc2 := 32) (L2 := [.ref 1, .int (nI s), .int (ssg A s k), .int (nI k), .int 1]) (st2 := [.int 1, .int (A 2 k)]) (M2 := (A, G, PF)) (hs2 := []) (C := ((nI k) = nI k ∧ k < 5) ∧ True) [(.istore 4, 0, 0), (.aload_n 0, 0, 0), (.getfield 9, 0, 0), (.iload_n 3, 0, 0), (.iaload, 0, 0), (.iconst 1, 0, 0)] [k] (by decide +kernel) rfl ⟨⟨rfl, by omega⟩, trivial⟩ ?_
      refine go_cmp (cnd := .ne) (off := 20) 52 (by decide +kernel) (by decide) (fun (c7 : ¬ (A 2 k) = 1) => ?_) (fun (c7 : (A 2 k) = 1) => ?_)
      · skip
        refine go_blk (pc2 := 59) (L2 := [.ref 1, .int (nI s), .int (ssg A s k), .int (nI k), .int 1]) (st2 := [.int 2, .int (A 2 k)]) (M2 := (A, G, PF)) (hs2 := []) (C := ((nI k) = nI k ∧ k < 5) ∧ True) [(.aload_n 0, 0, 0), (.getfield 9, 0, 0), (.iload_n 3, 0, 0), (.iaload, 0, 0), (.iconst 2, 0, 0)] [k] (by decide +kernel) rfl ⟨⟨rfl, by omega⟩, trivial⟩ ?_
        refine go_cmp (cnd := .ne) (off := 17) 76 (by decide +kernel) (by decide) (fun (c8 : ¬ (A 2 k) = 2) => ?_) (fun (c8 : (A 2 k) = 2) => ?_)
        · skip
          refine go_blk (pc2 := 79) (L2 := [.ref 1, .int (nI s), .int (ssg A s k), .int ((nI k) + 1), .int 1]) (st2 := []) (M2 := (A, G, PF)) (hs2 := []) (C := True) [(.iinc 3 1, 0, 0)] [] (by decide +kernel) rfl trivial ?_
          refine go_goto (off := -75) 4 (by decide +kernel) (by decide) ?_
          exact go_as (ih (by omega) (.int 1)) rfl (by simp [ssg, nI_1, *]) rfl
        · skip
          refine go_blk (pc2 := 64) (L2 := [.ref 1, .int (nI s), .int (ssg A s k), .int (nI k), .int 1]) (st2 := [.int 1]) (M2 := (A, G, PF)) (hs2 := []) (C := True) [(.iload 4, 0, 0)] [] (by decide +kernel) rfl trivial ?_
          refine go_ifz (cnd := .ne) (off := 12) 76 (by decide +kernel) (by decide) (fun _ => ?_) (fun (h : (1 : Int32) = 0) => absurd h (by decide))
          refine go_blk (pc2 := 79) (L2 := [.ref 1, .int (nI s), .int (ssg A s k), .int ((nI k) + 1), .int 1]) (st2 := []) (M2 := (A, G, PF)) (hs2 := []) (C := True) [(.iinc 3 1, 0, 0)] [] (by decide +kernel) rfl trivial ?_
          refine go_goto (off := -75) 4 (by decide +kernel) (by decide) ?_
          exact go_as (ih (by omega) (.int 1)) rfl (by simp [ssg, nI_1, *]) rfl
      · skip
        refine go_blk (pc2 := 37) (L2 := [.ref 1, .int (nI s), .int (ssg A s k), .int (nI k), .int 1]) (st2 := [.int 1]) (M2 := (A, G, PF)) (hs2 := []) (C := True) [(.iload 4, 0, 0)] [] (by decide +kernel) rfl trivial ?_
        refine go_ifz (cnd := .ne) (off := 15) 52 (by decide +kernel) (by decide) (fun _ => ?_) (fun (h : (1 : Int32) = 0) => absurd h (by decide))
        refine go_blk (pc2 := 59) (L2 := [.ref 1, .int (nI s), .int (ssg A s k), .int (nI k), .int 1]) (st2 := [.int 2, .int (A 2 k)]) (M2 := (A, G, PF)) (hs2 := []) (C := ((nI k) = nI k ∧ k < 5) ∧ True) [(.aload_n 0, 0, 0), (.getfield 9, 0, 0), (.iload_n 3, 0, 0), (.iaload, 0, 0), (.iconst 2, 0, 0)] [k] (by decide +kernel) rfl ⟨⟨rfl, by omega⟩, trivial⟩ ?_
        refine go_cmp (cnd := .ne) (off := 17) 76 (by decide +kernel) (by decide) (fun (c9 : ¬ (A 2 k) = 2) => ?_) (fun (c9 : (A 2 k) = 2) => ?_)
        · skip
          refine go_blk (pc2 := 79) (L2 := [.ref 1, .int (nI s), .int (ssg A s k), .int ((nI k) + 1), .int 1]) (st2 := []) (M2 := (A, G, PF)) (hs2 := []) (C := True) [(.iinc 3 1, 0, 0)] [] (by decide +kernel) rfl trivial ?_
          refine go_goto (off := -75) 4 (by decide +kernel) (by decide) ?_
          exact go_as (ih (by omega) (.int 1)) rfl (by simp [ssg, nI_1, *]) rfl
        · skip
          refine go_blk (pc2 := 64) (L2 := [.ref 1, .int (nI s), .int (ssg A s k), .int (nI k), .int 1]) (st2 := [.int 1]) (M2 := (A, G, PF)) (hs2 := []) (C := True) [(.iload 4, 0, 0)] [] (by decide +kernel) rfl trivial ?_
          refine go_ifz (cnd := .ne) (off := 12) 76 (by decide +kernel) (by decide) (fun _ => ?_) (fun (h : (1 : Int32) = 0) => absurd h (by decide))
          refine go_blk (pc2 := 79) (L2 := [.ref 1, .int (nI s), .int (ssg A s k), .int ((nI k) + 1), .int 1]) (st2 := []) (M2 := (A, G, PF)) (hs2 := []) (C := True) [(.iinc 3 1, 0, 0)] [] (by decide +kernel) rfl trivial ?_
          refine go_goto (off := -75) 4 (by decide +kernel) (by decide) ?_
          exact go_as (ih (by omega) (.int 1)) rfl (by simp [ssg, nI_1, *]) rfl
set_option maxRecDepth 100000 in
set_option maxHeartbeats 4000000 in
theorem s_X0_sidesSought (l : Launch) (A : Nat → Nat → Int32) (G : Nat → Nat → Int64) (s : Nat) (hs : s < 32) : Sem l mX0_sidesSought [.ref 1, .int (nI s)] 27 (A, G, PF) 27 (pv (ssg A s 5) (A, G, PF)) := by
  refine sem_of_go (by decide) rfl (by decide) (by decide) rfl (Nat.le_of_ble_eq_true rfl) ?_
  show Go l ro0 mX0_sidesSought 27 (A, G, PF) 0 [.ref 1, .int (nI s), .null, .null, .null] [] 27 (pv (ssg A s 5) (A, G, PF))
  refine go_blk (pc2 := 4) (L2 := [.ref 1, .int (nI s), .int 0, .int 0, .null]) (st2 := []) (M2 := (A, G, PF)) (hs2 := []) (C := True) [(.iconst 0, 0, 0), (.istore_n 2, 0, 0), (.iconst 0, 0, 0), (.istore_n 3, 0, 0)] [] (by decide +kernel) rfl trivial ?_
  exact lp_X0_sidesSought l A G s hs 0 (by omega) _
set_option maxRecDepth 100000 in
set_option maxHeartbeats 4000000 in
theorem s_X0_contradict (l : Launch) (A : Nat → Nat → Int32) (G : Nat → Nat → Int64) (s : Nat) (hs : s < 32) (p : Nat) (hp : p < 5) (kk mm : Nat) (hk : kk < 5) (hm : mm < 5) (hF : FOk A) : Sem l mX0_contradict [.ref 1, .int (nI kk), .int (nI mm), .int (nI s), .int (nI p)] 27 (A, G, PF) 27 (pv (bi (Contr A s p kk mm)) (A, G, PF)) := by
  refine sem_of_go (by decide) rfl (by decide) (by decide) rfl (Nat.le_of_ble_eq_true rfl) ?_
  show Go l ro0 mX0_contradict 27 (A, G, PF) 0 [.ref 1, .int (nI kk), .int (nI mm), .int (nI s), .int (nI p), .null, .null] [] 27 (pv (bi (Contr A s p kk mm)) (A, G, PF))
  refine go_blk (pc2 := 1) (L2 := [.ref 1, .int (nI kk), .int (nI mm), .int (nI s), .int (nI p), .null, .null]) (st2 := [.int (nI kk)]) (M2 := (A, G, PF)) (hs2 := []) (C := True) [(.iload_n 1, 0, 0)] [] (by decide +kernel) rfl trivial ?_
  refine go_call (Y2 := mX5_isAtom) (n2 := 27) (st := []) [] [.int (nI kk)] ck_0_37 cwX5_isAtom rfl (by decide +kernel) rfl (fun _ => rfl) (fun h => absurd rfl h) (Nat.le_of_ble_eq_true rfl) (Or.inl rfl) (fun _ _ _ h => h) (s_X5_isAtom l A G (nI kk)) (fun v M2 hp1 => ?_)
  obtain ⟨rfl, rfl⟩ := hp1
  rw [bi_t (atm_in (by omega))]
  show Go l ro0 mX0_contradict 27 (A, G, PF) 4 [.ref 1, .int (nI kk), .int (nI mm), .int (nI s), .int (nI p), .null, .null] [.int 1] 27 _
  refine go_ifz (cnd := .eq) (off := 30) 34 (by decide +kernel) (by decide) (fun (h : (1 : Int32) = 0) => absurd h (by decide)) (fun _ => ?_)
  refine go_blk (pc2 := 8) (L2 := [.ref 1, .int (nI kk), .int (nI mm), .int (nI s), .int (nI p), .null, .null]) (st2 := [.int (nI mm)]) (M2 := (A, G, PF)) (hs2 := []) (C := True) [(.iload_n 2, 0, 0)] [] (by decide +kernel) rfl trivial ?_
  refine go_call (Y2 := mX5_isAtom) (n2 := 27) (st := []) [] [.int (nI mm)] ck_0_37 cwX5_isAtom rfl (by decide +kernel) rfl (fun _ => rfl) (fun h => absurd rfl h) (Nat.le_of_ble_eq_true rfl) (Or.inl rfl) (fun _ _ _ h => h) (s_X5_isAtom l A G (nI mm)) (fun v M2 hp2 => ?_)
  obtain ⟨rfl, rfl⟩ := hp2
  rw [bi_t (atm_in (by omega))]
  show Go l ro0 mX0_contradict 27 (A, G, PF) 11 [.ref 1, .int (nI kk), .int (nI mm), .int (nI s), .int (nI p), .null, .null] [.int 1] 27 _
  refine go_ifz (cnd := .eq) (off := 23) 34 (by decide +kernel) (by decide) (fun (h : (1 : Int32) = 0) => absurd h (by decide)) (fun _ => ?_)
  refine go_blk (pc2 := 21) (L2 := [.ref 1, .int (nI kk), .int (nI mm), .int (nI s), .int (nI p), .null, .null]) (st2 := [.int 3, .int (A 2 kk)]) (M2 := (A, G, PF)) (hs2 := []) (C := ((nI kk) = nI kk ∧ kk < 5) ∧ True) [(.aload_n 0, 0, 0), (.getfield 9, 0, 0), (.iload_n 1, 0, 0), (.iaload, 0, 0), (.iconst 3, 0, 0)] [kk] (by decide +kernel) rfl ⟨⟨rfl, by omega⟩, trivial⟩ ?_
  refine go_cmp (cnd := .ne) (off := 13) 34 (by decide +kernel) (by decide) (fun (c3 : ¬ (A 2 kk) = 3) => ?_) (fun (c3 : (A 2 kk) = 3) => ?_)
  · skip
    refine go_blk (pc2 := 35) (L2 := [.ref 1, .int (nI kk), .int (nI mm), .int (nI s), .int (nI p), .null, .null]) (st2 := [.int 0]) (M2 := (A, G, PF)) (hs2 := []) (C := True) [(.iconst 0, 0, 0)] [] (by decide +kernel) rfl trivial ?_
    exact go_retz (by decide +kernel) rfl (Or.inl rfl) (pv0 (by simp only [Contr]; simp_all))
  · skip
    have hf1 := hF kk hk c3
    refine go_blk (pc2 := 31) (L2 := [.ref 1, .int (nI kk), .int (nI mm), .int (nI s), .int (nI p), .null, .null]) (st2 := [.int 3, .int (A 2 mm)]) (M2 := (A, G, PF)) (hs2 := []) (C := ((nI mm) = nI mm ∧ mm < 5) ∧ True) [(.aload_n 0, 0, 0), (.getfield 9, 0, 0), (.iload_n 2, 0, 0), (.iaload, 0, 0), (.iconst 3, 0, 0)] [mm] (by decide +kernel) rfl ⟨⟨rfl, by omega⟩, trivial⟩ ?_
    refine go_cmp (cnd := .eq) (off := 5) 36 (by decide +kernel) (by decide) (fun (c4 : (A 2 mm) = 3) => ?_) (fun (c4 : ¬ (A 2 mm) = 3) => ?_)
    · skip
      have hf2 := hF mm hm c4
      refine go_blk (pc2 := 42) (L2 := [.ref 1, .int (nI kk), .int (nI mm), .int (nI s), .int (nI p), .null, .null]) (st2 := [.int 1, .int (((nI s) >>> ((nI kk) &&& 31)) &&& 1)]) (M2 := (A, G, PF)) (hs2 := []) (C := True) [(.iload_n 3, 0, 0), (.iload_n 1, 0, 0), (.ishr, 0, 0), (.iconst 1, 0, 0), (.iand, 0, 0), (.iconst 1, 0, 0)] [] (by decide +kernel) rfl trivial ?_
      refine go_cmp (cnd := .ne) (off := 7) 49 (by decide +kernel) (by decide) (fun (c5 : ¬ (((nI s) >>> ((nI kk) &&& 31)) &&& 1) = 1) => ?_) (fun (c5 : (((nI s) >>> ((nI kk) &&& 31)) &&& 1) = 1) => ?_)
      · skip
        rw [bitS1 hs (by omega)] at c5
        refine go_blk (pc2 := 58) (L2 := [.ref 1, .int (nI kk), .int (nI mm), .int (nI s), .int (nI p), .int 0, .null]) (st2 := [.int 1, .int (((nI s) >>> ((nI mm) &&& 31)) &&& 1)]) (M2 := (A, G, PF)) (hs2 := []) (C := True) [(.iconst 0, 0, 0), (.istore 5, 0, 0), (.iload_n 3, 0, 0), (.iload_n 2, 0, 0), (.ishr, 0, 0), (.iconst 1, 0, 0), (.iand, 0, 0), (.iconst 1, 0, 0)] [] (by decide +kernel) rfl trivial ?_
        refine go_cmp (cnd := .ne) (off := 7) 65 (by decide +kernel) (by decide) (fun (c6 : ¬ (((nI s) >>> ((nI mm) &&& 31)) &&& 1) = 1) => ?_) (fun (c6 : (((nI s) >>> ((nI mm) &&& 31)) &&& 1) = 1) => ?_)
        · skip
          rw [bitS1 hs (by omega)] at c6
          refine go_blk (pc2 := 70) (L2 := [.ref 1, .int (nI kk), .int (nI mm), .int (nI s), .int (nI p), .int 0, .int 0]) (st2 := [.int 0]) (M2 := (A, G, PF)) (hs2 := []) (C := True) [(.iconst 0, 0, 0), (.istore 6, 0, 0), (.iload 5, 0, 0)] [] (by decide +kernel) rfl trivial ?_
          refine go_ifz (cnd := .ne) (off := 8) 78 (by decide +kernel) (by decide) (fun (h : ¬ (0 : Int32) = 0) => absurd h (by decide)) (fun _ => ?_)
          refine go_blk (pc2 := 75) (L2 := [.ref 1, .int (nI kk), .int (nI mm), .int (nI s), .int (nI p), .int 0, .int 0]) (st2 := [.int 0]) (M2 := (A, G, PF)) (hs2 := []) (C := True) [(.iload 6, 0, 0)] [] (by decide +kernel) rfl trivial ?_
          refine go_ifz (cnd := .eq) (off := 23) 98 (by decide +kernel) (by decide) (fun _ => ?_) (fun (h : ¬ (0 : Int32) = 0) => absurd h (by decide))
          refine go_blk (pc2 := 99) (L2 := [.ref 1, .int (nI kk), .int (nI mm), .int (nI s), .int (nI p), .int 0, .int 0]) (st2 := [.int 0]) (M2 := (A, G, PF)) (hs2 := []) (C := True) [(.iconst 0, 0, 0)] [] (by decide +kernel) rfl trivial ?_
          exact go_retz (by decide +kernel) rfl (Or.inl rfl) (pv0 (by simp only [Contr]; simp_all))
        · skip
          rw [bitS1 hs (by omega)] at c6
          refine go_blk (pc2 := 62) (L2 := [.ref 1, .int (nI kk), .int (nI mm), .int (nI s), .int (nI p), .int 0, .null]) (st2 := [.int 1]) (M2 := (A, G, PF)) (hs2 := []) (C := True) [(.iconst 1, 0, 0)] [] (by decide +kernel) rfl trivial ?_
          refine go_goto (off := 4) 66 (by decide +kernel) (by decide) ?_
          refine go_blk (pc2 := 70) (L2 := [.ref 1, .int (nI kk), .int (nI mm), .int (nI s), .int (nI p), .int 0, .int 1]) (st2 := [.int 0]) (M2 := (A, G, PF)) (hs2 := []) (C := True) [(.istore 6, 0, 0), (.iload 5, 0, 0)] [] (by decide +kernel) rfl trivial ?_
          refine go_ifz (cnd := .ne) (off := 8) 78 (by decide +kernel) (by decide) (fun (h : ¬ (0 : Int32) = 0) => absurd h (by decide)) (fun _ => ?_)
          refine go_blk (pc2 := 75) (L2 := [.ref 1, .int (nI kk), .int (nI mm), .int (nI s), .int (nI p), .int 0, .int 1]) (st2 := [.int 1]) (M2 := (A, G, PF)) (hs2 := []) (C := True) [(.iload 6, 0, 0)] [] (by decide +kernel) rfl trivial ?_
          refine go_ifz (cnd := .eq) (off := 23) 98 (by decide +kernel) (by decide) (fun (h : (1 : Int32) = 0) => absurd h (by decide)) (fun _ => ?_)
          refine go_blk (pc2 := 92) (L2 := [.ref 1, .int (nI kk), .int (nI mm), .int (nI s), .int (nI p), .int 0, .int 1]) (st2 := [.int (A 7 mm), .int (A 7 kk), .int (nI p)]) (M2 := (A, G, PF)) (hs2 := []) (C := ((nI kk) = nI kk ∧ kk < 5) ∧ ((nI mm) = nI mm ∧ mm < 5) ∧ True) [(.iload 4, 0, 0), (.aload_n 0, 0, 0), (.getfield 27, 0, 5), (.iload_n 1, 0, 0), (.iaload, 0, 0), (.aload_n 0, 0, 0), (.getfield 27, 0, 5), (.iload_n 2, 0, 0), (.iaload, 0, 0)] [kk, mm] (by decide +kernel) rfl ⟨⟨rfl, by omega⟩, ⟨rfl, by omega⟩, trivial⟩ ?_
          refine go_call (Y2 := mX5_areEqual) (n2 := 27) (st := []) [] [.int (nI p), .int (A 7 kk), .int (A 7 mm)] ck_0_57 cwX5_areEqual rfl (by decide +kernel) rfl (fun _ => rfl) (fun h => absurd rfl h) (Nat.le_of_ble_eq_true rfl) (Or.inl rfl) (fun _ _ _ h => h) (s_X5_areEqual l A G p (fi A kk) (fi A mm) (A 7 kk) (A 7 mm) (by omega) hf1.1.1 hf2.1.1 hf1.1.2 hf2.1.2) (fun v M2 hp7 => ?_)
          obtain ⟨rfl, rfl⟩ := hp7
          rcases Classical.em (Eq3 p (fi A kk) (fi A mm)) with hb8 | hb8
          · rw [bi_t hb8]
            show Go l ro0 mX0_contradict 27 (A, G, PF) 95 [.ref 1, .int (nI kk), .int (nI mm), .int (nI s), .int (nI p), .int 0, .int 1] [.int 1] 27 _
            refine go_ifz (cnd := .ne) (off := 5) 100 (by decide +kernel) (by decide) (fun _ => ?_) (fun (h : (1 : Int32) = 0) => absurd h (by decide))
            refine go_blk (pc2 := 114) (L2 := [.ref 1, .int (nI kk), .int (nI mm), .int (nI s), .int (nI p), .int 0, .int 1]) (st2 := [.int (A 8 mm), .int (A 8 kk), .int (nI p)]) (M2 := (A, G, PF)) (hs2 := []) (C := ((nI kk) = nI kk ∧ kk < 5) ∧ ((nI mm) = nI mm ∧ mm < 5) ∧ True) [(.iload 4, 0, 0), (.aload_n 0, 0, 0), (.getfield 30, 0, 6), (.iload_n 1, 0, 0), (.iaload, 0, 0), (.aload_n 0, 0, 0), (.getfield 30, 0, 6), (.iload_n 2, 0, 0), (.iaload, 0, 0)] [kk, mm] (by decide +kernel) rfl ⟨⟨rfl, by omega⟩, ⟨rfl, by omega⟩, trivial⟩ ?_
            refine go_call (Y2 := mX5_areEqual) (n2 := 27) (st := []) [] [.int (nI p), .int (A 8 kk), .int (A 8 mm)] ck_0_57 cwX5_areEqual rfl (by decide +kernel) rfl (fun _ => rfl) (fun h => absurd rfl h) (Nat.le_of_ble_eq_true rfl) (Or.inl rfl) (fun _ _ _ h => h) (s_X5_areEqual l A G p (fj A kk) (fj A mm) (A 8 kk) (A 8 mm) (by omega) hf1.2.1 hf2.2.1 hf1.2.2 hf2.2.2) (fun v M2 hp9 => ?_)
            obtain ⟨rfl, rfl⟩ := hp9
            rcases Classical.em (Eq3 p (fj A kk) (fj A mm)) with hb10 | hb10
            · rw [bi_t hb10]
              show Go l ro0 mX0_contradict 27 (A, G, PF) 117 [.ref 1, .int (nI kk), .int (nI mm), .int (nI s), .int (nI p), .int 0, .int 1] [.int 1] 27 _
              refine go_blk (pc2 := 119) (L2 := [.ref 1, .int (nI kk), .int (nI mm), .int (nI s), .int (nI p), .int 0, .int 1]) (st2 := [.int 0, .int 1]) (M2 := (A, G, PF)) (hs2 := []) (C := True) [(.iload 5, 0, 0)] [] (by decide +kernel) rfl trivial ?_
              refine go_ifz (cnd := .eq) (off := 12) 131 (by decide +kernel) (by decide) (fun _ => ?_) (fun (h : ¬ (0 : Int32) = 0) => absurd h (by decide))
              refine go_blk (pc2 := 132) (L2 := [.ref 1, .int (nI kk), .int (nI mm), .int (nI s), .int (nI p), .int 0, .int 1]) (st2 := [.int 0, .int 1]) (M2 := (A, G, PF)) (hs2 := []) (C := True) [(.iconst 0, 0, 0)] [] (by decide +kernel) rfl trivial ?_
              refine go_cmp (cnd := .eq) (off := 7) 139 (by decide +kernel) (by decide) (fun (h : (1 : Int32) = 0) => absurd h (by decide)) (fun _ => ?_)
              refine go_blk (pc2 := 136) (L2 := [.ref 1, .int (nI kk), .int (nI mm), .int (nI s), .int (nI p), .int 0, .int 1]) (st2 := [.int 1]) (M2 := (A, G, PF)) (hs2 := []) (C := True) [(.iconst 1, 0, 0)] [] (by decide +kernel) rfl trivial ?_
              refine go_goto (off := 4) 140 (by decide +kernel) (by decide) ?_
              exact go_retz (by decide +kernel) rfl (Or.inr rfl) (pv1 (by simp only [Contr]; simp_all))
            · rw [bi_f hb10]
              show Go l ro0 mX0_contradict 27 (A, G, PF) 117 [.ref 1, .int (nI kk), .int (nI mm), .int (nI s), .int (nI p), .int 0, .int 1] [.int 0] 27 _
              refine go_blk (pc2 := 119) (L2 := [.ref 1, .int (nI kk), .int (nI mm), .int (nI s), .int (nI p), .int 0, .int 1]) (st2 := [.int 0, .int 0]) (M2 := (A, G, PF)) (hs2 := []) (C := True) [(.iload 5, 0, 0)] [] (by decide +kernel) rfl trivial ?_
              refine go_ifz (cnd := .eq) (off := 12) 131 (by decide +kernel) (by decide) (fun _ => ?_) (fun (h : ¬ (0 : Int32) = 0) => absurd h (by decide))
              refine go_blk (pc2 := 132) (L2 := [.ref 1, .int (nI kk), .int (nI mm), .int (nI s), .int (nI p), .int 0, .int 1]) (st2 := [.int 0, .int 0]) (M2 := (A, G, PF)) (hs2 := []) (C := True) [(.iconst 0, 0, 0)] [] (by decide +kernel) rfl trivial ?_
              refine go_cmp (cnd := .eq) (off := 7) 139 (by decide +kernel) (by decide) (fun _ => ?_) (fun (h : ¬ (0 : Int32) = 0) => absurd h (by decide))
              refine go_blk (pc2 := 140) (L2 := [.ref 1, .int (nI kk), .int (nI mm), .int (nI s), .int (nI p), .int 0, .int 1]) (st2 := [.int 0]) (M2 := (A, G, PF)) (hs2 := []) (C := True) [(.iconst 0, 0, 0)] [] (by decide +kernel) rfl trivial ?_
              exact go_retz (by decide +kernel) rfl (Or.inl rfl) (pv0 (by simp only [Contr]; simp_all))
          · rw [bi_f hb8]
            show Go l ro0 mX0_contradict 27 (A, G, PF) 95 [.ref 1, .int (nI kk), .int (nI mm), .int (nI s), .int (nI p), .int 0, .int 1] [.int 0] 27 _
            refine go_ifz (cnd := .ne) (off := 5) 100 (by decide +kernel) (by decide) (fun (h : ¬ (0 : Int32) = 0) => absurd h (by decide)) (fun _ => ?_)
            refine go_blk (pc2 := 99) (L2 := [.ref 1, .int (nI kk), .int (nI mm), .int (nI s), .int (nI p), .int 0, .int 1]) (st2 := [.int 0]) (M2 := (A, G, PF)) (hs2 := []) (C := True) [(.iconst 0, 0, 0)] [] (by decide +kernel) rfl trivial ?_
            exact go_retz (by decide +kernel) rfl (Or.inl rfl) (pv0 (by simp only [Contr]; simp_all))
      · skip
        rw [bitS1 hs (by omega)] at c5
        refine go_blk (pc2 := 46) (L2 := [.ref 1, .int (nI kk), .int (nI mm), .int (nI s), .int (nI p), .null, .null]) (st2 := [.int 1]) (M2 := (A, G, PF)) (hs2 := []) (C := True) [(.iconst 1, 0, 0)] [] (by decide +kernel) rfl trivial ?_
        refine go_goto (off := 4) 50 (by decide +kernel) (by decide) ?_
        refine go_blk (pc2 := 58) (L2 := [.ref 1, .int (nI kk), .int (nI mm), .int (nI s), .int (nI p), .int 1, .null]) (st2 := [.int 1, .int (((nI s) >>> ((nI mm) &&& 31)) &&& 1)]) (M2 := (A, G, PF)) (hs2 := []) (C := True) [(.istore 5, 0, 0), (.iload_n 3, 0, 0), (.iload_n 2, 0, 0), (.ishr, 0, 0), (.iconst 1, 0, 0), (.iand, 0, 0), (.iconst 1, 0, 0)] [] (by decide +kernel) rfl trivial ?_
        refine go_cmp (cnd := .ne) (off := 7) 65 (by decide +kernel) (by decide) (fun (c11 : ¬ (((nI s) >>> ((nI mm) &&& 31)) &&& 1) = 1) => ?_) (fun (c11 : (((nI s) >>> ((nI mm) &&& 31)) &&& 1) = 1) => ?_)
        · skip
          rw [bitS1 hs (by omega)] at c11
          refine go_blk (pc2 := 70) (L2 := [.ref 1, .int (nI kk), .int (nI mm), .int (nI s), .int (nI p), .int 1, .int 0]) (st2 := [.int 1]) (M2 := (A, G, PF)) (hs2 := []) (C := True) [(.iconst 0, 0, 0), (.istore 6, 0, 0), (.iload 5, 0, 0)] [] (by decide +kernel) rfl trivial ?_
          refine go_ifz (cnd := .ne) (off := 8) 78 (by decide +kernel) (by decide) (fun _ => ?_) (fun (h : (1 : Int32) = 0) => absurd h (by decide))
          refine go_blk (pc2 := 92) (L2 := [.ref 1, .int (nI kk), .int (nI mm), .int (nI s), .int (nI p), .int 1, .int 0]) (st2 := [.int (A 7 mm), .int (A 7 kk), .int (nI p)]) (M2 := (A, G, PF)) (hs2 := []) (C := ((nI kk) = nI kk ∧ kk < 5) ∧ ((nI mm) = nI mm ∧ mm < 5) ∧ True) [(.iload 4, 0, 0), (.aload_n 0, 0, 0), (.getfield 27, 0, 5), (.iload_n 1, 0, 0), (.iaload, 0, 0), (.aload_n 0, 0, 0), (.getfield 27, 0, 5), (.iload_n 2, 0, 0), (.iaload, 0, 0)] [kk, mm] (by decide +kernel) rfl ⟨⟨rfl, by omega⟩, ⟨rfl, by omega⟩, trivial⟩ ?_
          refine go_call (Y2 := mX5_areEqual) (n2 := 27) (st := []) [] [.int (nI p), .int (A 7 kk), .int (A 7 mm)] ck_0_57 cwX5_areEqual rfl (by decide +kernel) rfl (fun _ => rfl) (fun h => absurd rfl h) (Nat.le_of_ble_eq_true rfl) (Or.inl rfl) (fun _ _ _ h => h) (s_X5_areEqual l A G p (fi A kk) (fi A mm) (A 7 kk) (A 7 mm) (by omega) hf1.1.1 hf2.1.1 hf1.1.2 hf2.1.2) (fun v M2 hp12 => ?_)
          obtain ⟨rfl, rfl⟩ := hp12
          rcases Classical.em (Eq3 p (fi A kk) (fi A mm)) with hb13 | hb13
          · rw [bi_t hb13]
            show Go l ro0 mX0_contradict 27 (A, G, PF) 95 [.ref 1, .int (nI kk), .int (nI mm), .int (nI s), .int (nI p), .int 1, .int 0] [.int 1] 27 _
            refine go_ifz (cnd := .ne) (off := 5) 100 (by decide +kernel) (by decide) (fun _ => ?_) (fun (h : (1 : Int32) = 0) => absurd h (by decide))
            refine go_blk (pc2 := 114) (L2 := [.ref 1, .int (nI kk), .int (nI mm), .int (nI s), .int (nI p), .int 1, .int 0]) (st2 := [.int (A 8 mm), .int (A 8 kk), .int (nI p)]) (M2 := (A, G, PF)) (hs2 := []) (C := ((nI kk) = nI kk ∧ kk < 5) ∧ ((nI mm) = nI mm ∧ mm < 5) ∧ True) [(.iload 4, 0, 0), (.aload_n 0, 0, 0), (.getfield 30, 0, 6), (.iload_n 1, 0, 0), (.iaload, 0, 0), (.aload_n 0, 0, 0), (.getfield 30, 0, 6), (.iload_n 2, 0, 0), (.iaload, 0, 0)] [kk, mm] (by decide +kernel) rfl ⟨⟨rfl, by omega⟩, ⟨rfl, by omega⟩, trivial⟩ ?_
            refine go_call (Y2 := mX5_areEqual) (n2 := 27) (st := []) [] [.int (nI p), .int (A 8 kk), .int (A 8 mm)] ck_0_57 cwX5_areEqual rfl (by decide +kernel) rfl (fun _ => rfl) (fun h => absurd rfl h) (Nat.le_of_ble_eq_true rfl) (Or.inl rfl) (fun _ _ _ h => h) (s_X5_areEqual l A G p (fj A kk) (fj A mm) (A 8 kk) (A 8 mm) (by omega) hf1.2.1 hf2.2.1 hf1.2.2 hf2.2.2) (fun v M2 hp14 => ?_)
            obtain ⟨rfl, rfl⟩ := hp14
            rcases Classical.em (Eq3 p (fj A kk) (fj A mm)) with hb15 | hb15
            · rw [bi_t hb15]
              show Go l ro0 mX0_contradict 27 (A, G, PF) 117 [.ref 1, .int (nI kk), .int (nI mm), .int (nI s), .int (nI p), .int 1, .int 0] [.int 1] 27 _
              refine go_blk (pc2 := 119) (L2 := [.ref 1, .int (nI kk), .int (nI mm), .int (nI s), .int (nI p), .int 1, .int 0]) (st2 := [.int 1, .int 1]) (M2 := (A, G, PF)) (hs2 := []) (C := True) [(.iload 5, 0, 0)] [] (by decide +kernel) rfl trivial ?_
              refine go_ifz (cnd := .eq) (off := 12) 131 (by decide +kernel) (by decide) (fun (h : (1 : Int32) = 0) => absurd h (by decide)) (fun _ => ?_)
              refine go_blk (pc2 := 124) (L2 := [.ref 1, .int (nI kk), .int (nI mm), .int (nI s), .int (nI p), .int 1, .int 0]) (st2 := [.int 0, .int 1]) (M2 := (A, G, PF)) (hs2 := []) (C := True) [(.iload 6, 0, 0)] [] (by decide +kernel) rfl trivial ?_
              refine go_ifz (cnd := .eq) (off := 7) 131 (by decide +kernel) (by decide) (fun _ => ?_) (fun (h : ¬ (0 : Int32) = 0) => absurd h (by decide))
              refine go_blk (pc2 := 132) (L2 := [.ref 1, .int (nI kk), .int (nI mm), .int (nI s), .int (nI p), .int 1, .int 0]) (st2 := [.int 0, .int 1]) (M2 := (A, G, PF)) (hs2 := []) (C := True) [(.iconst 0, 0, 0)] [] (by decide +kernel) rfl trivial ?_
              refine go_cmp (cnd := .eq) (off := 7) 139 (by decide +kernel) (by decide) (fun (h : (1 : Int32) = 0) => absurd h (by decide)) (fun _ => ?_)
              refine go_blk (pc2 := 136) (L2 := [.ref 1, .int (nI kk), .int (nI mm), .int (nI s), .int (nI p), .int 1, .int 0]) (st2 := [.int 1]) (M2 := (A, G, PF)) (hs2 := []) (C := True) [(.iconst 1, 0, 0)] [] (by decide +kernel) rfl trivial ?_
              refine go_goto (off := 4) 140 (by decide +kernel) (by decide) ?_
              exact go_retz (by decide +kernel) rfl (Or.inr rfl) (pv1 (by simp only [Contr]; simp_all))
            · rw [bi_f hb15]
              show Go l ro0 mX0_contradict 27 (A, G, PF) 117 [.ref 1, .int (nI kk), .int (nI mm), .int (nI s), .int (nI p), .int 1, .int 0] [.int 0] 27 _
              refine go_blk (pc2 := 119) (L2 := [.ref 1, .int (nI kk), .int (nI mm), .int (nI s), .int (nI p), .int 1, .int 0]) (st2 := [.int 1, .int 0]) (M2 := (A, G, PF)) (hs2 := []) (C := True) [(.iload 5, 0, 0)] [] (by decide +kernel) rfl trivial ?_
              refine go_ifz (cnd := .eq) (off := 12) 131 (by decide +kernel) (by decide) (fun (h : (1 : Int32) = 0) => absurd h (by decide)) (fun _ => ?_)
              refine go_blk (pc2 := 124) (L2 := [.ref 1, .int (nI kk), .int (nI mm), .int (nI s), .int (nI p), .int 1, .int 0]) (st2 := [.int 0, .int 0]) (M2 := (A, G, PF)) (hs2 := []) (C := True) [(.iload 6, 0, 0)] [] (by decide +kernel) rfl trivial ?_
              refine go_ifz (cnd := .eq) (off := 7) 131 (by decide +kernel) (by decide) (fun _ => ?_) (fun (h : ¬ (0 : Int32) = 0) => absurd h (by decide))
              refine go_blk (pc2 := 132) (L2 := [.ref 1, .int (nI kk), .int (nI mm), .int (nI s), .int (nI p), .int 1, .int 0]) (st2 := [.int 0, .int 0]) (M2 := (A, G, PF)) (hs2 := []) (C := True) [(.iconst 0, 0, 0)] [] (by decide +kernel) rfl trivial ?_
              refine go_cmp (cnd := .eq) (off := 7) 139 (by decide +kernel) (by decide) (fun _ => ?_) (fun (h : ¬ (0 : Int32) = 0) => absurd h (by decide))
              refine go_blk (pc2 := 140) (L2 := [.ref 1, .int (nI kk), .int (nI mm), .int (nI s), .int (nI p), .int 1, .int 0]) (st2 := [.int 0]) (M2 := (A, G, PF)) (hs2 := []) (C := True) [(.iconst 0, 0, 0)] [] (by decide +kernel) rfl trivial ?_
              exact go_retz (by decide +kernel) rfl (Or.inl rfl) (pv0 (by simp only [Contr]; simp_all))
          · rw [bi_f hb13]
            show Go l ro0 mX0_contradict 27 (A, G, PF) 95 [.ref 1, .int (nI kk), .int (nI mm), .int (nI s), .int (nI p), .int 1, .int 0] [.int 0] 27 _
            refine go_ifz (cnd := .ne) (off := 5) 100 (by decide +kernel) (by decide) (fun (h : ¬ (0 : Int32) = 0) => absurd h (by decide)) (fun _ => ?_)
            refine go_blk (pc2 := 99) (L2 := [.ref 1, .int (nI kk), .int (nI mm), .int (nI s), .int (nI p), .int 1, .int 0]) (st2 := [.int 0]) (M2 := (A, G, PF)) (hs2 := []) (C := True) [(.iconst 0, 0, 0)] [] (by decide +kernel) rfl trivial ?_
            exact go_retz (by decide +kernel) rfl (Or.inl rfl) (pv0 (by simp only [Contr]; simp_all))
        · skip
          rw [bitS1 hs (by omega)] at c11
          refine go_blk (pc2 := 62) (L2 := [.ref 1, .int (nI kk), .int (nI mm), .int (nI s), .int (nI p), .int 1, .null]) (st2 := [.int 1]) (M2 := (A, G, PF)) (hs2 := []) (C := True) [(.iconst 1, 0, 0)] [] (by decide +kernel) rfl trivial ?_
          refine go_goto (off := 4) 66 (by decide +kernel) (by decide) ?_
          refine go_blk (pc2 := 70) (L2 := [.ref 1, .int (nI kk), .int (nI mm), .int (nI s), .int (nI p), .int 1, .int 1]) (st2 := [.int 1]) (M2 := (A, G, PF)) (hs2 := []) (C := True) [(.istore 6, 0, 0), (.iload 5, 0, 0)] [] (by decide +kernel) rfl trivial ?_
          refine go_ifz (cnd := .ne) (off := 8) 78 (by decide +kernel) (by decide) (fun _ => ?_) (fun (h : (1 : Int32) = 0) => absurd h (by decide))
          refine go_blk (pc2 := 92) (L2 := [.ref 1, .int (nI kk), .int (nI mm), .int (nI s), .int (nI p), .int 1, .int 1]) (st2 := [.int (A 7 mm), .int (A 7 kk), .int (nI p)]) (M2 := (A, G, PF)) (hs2 := []) (C := ((nI kk) = nI kk ∧ kk < 5) ∧ ((nI mm) = nI mm ∧ mm < 5) ∧ True) [(.iload 4, 0, 0), (.aload_n 0, 0, 0), (.getfield 27, 0, 5), (.iload_n 1, 0, 0), (.iaload, 0, 0), (.aload_n 0, 0, 0), (.getfield 27, 0, 5), (.iload_n 2, 0, 0), (.iaload, 0, 0)] [kk, mm] (by decide +kernel) rfl ⟨⟨rfl, by omega⟩, ⟨rfl, by omega⟩, trivial⟩ ?_
          refine go_call (Y2 := mX5_areEqual) (n2 := 27) (st := []) [] [.int (nI p), .int (A 7 kk), .int (A 7 mm)] ck_0_57 cwX5_areEqual rfl (by decide +kernel) rfl (fun _ => rfl) (fun h => absurd rfl h) (Nat.le_of_ble_eq_true rfl) (Or.inl rfl) (fun _ _ _ h => h) (s_X5_areEqual l A G p (fi A kk) (fi A mm) (A 7 kk) (A 7 mm) (by omega) hf1.1.1 hf2.1.1 hf1.1.2 hf2.1.2) (fun v M2 hp16 => ?_)
          obtain ⟨rfl, rfl⟩ := hp16
          rcases Classical.em (Eq3 p (fi A kk) (fi A mm)) with hb17 | hb17
          · rw [bi_t hb17]
            show Go l ro0 mX0_contradict 27 (A, G, PF) 95 [.ref 1, .int (nI kk), .int (nI mm), .int (nI s), .int (nI p), .int 1, .int 1] [.int 1] 27 _
            refine go_ifz (cnd := .ne) (off := 5) 100 (by decide +kernel) (by decide) (fun _ => ?_) (fun (h : (1 : Int32) = 0) => absurd h (by decide))
            refine go_blk (pc2 := 114) (L2 := [.ref 1, .int (nI kk), .int (nI mm), .int (nI s), .int (nI p), .int 1, .int 1]) (st2 := [.int (A 8 mm), .int (A 8 kk), .int (nI p)]) (M2 := (A, G, PF)) (hs2 := []) (C := ((nI kk) = nI kk ∧ kk < 5) ∧ ((nI mm) = nI mm ∧ mm < 5) ∧ True) [(.iload 4, 0, 0), (.aload_n 0, 0, 0), (.getfield 30, 0, 6), (.iload_n 1, 0, 0), (.iaload, 0, 0), (.aload_n 0, 0, 0), (.getfield 30, 0, 6), (.iload_n 2, 0, 0), (.iaload, 0, 0)] [kk, mm] (by decide +kernel) rfl ⟨⟨rfl, by omega⟩, ⟨rfl, by omega⟩, trivial⟩ ?_
            refine go_call (Y2 := mX5_areEqual) (n2 := 27) (st := []) [] [.int (nI p), .int (A 8 kk), .int (A 8 mm)] ck_0_57 cwX5_areEqual rfl (by decide +kernel) rfl (fun _ => rfl) (fun h => absurd rfl h) (Nat.le_of_ble_eq_true rfl) (Or.inl rfl) (fun _ _ _ h => h) (s_X5_areEqual l A G p (fj A kk) (fj A mm) (A 8 kk) (A 8 mm) (by omega) hf1.2.1 hf2.2.1 hf1.2.2 hf2.2.2) (fun v M2 hp18 => ?_)
            obtain ⟨rfl, rfl⟩ := hp18
            rcases Classical.em (Eq3 p (fj A kk) (fj A mm)) with hb19 | hb19
            · rw [bi_t hb19]
              show Go l ro0 mX0_contradict 27 (A, G, PF) 117 [.ref 1, .int (nI kk), .int (nI mm), .int (nI s), .int (nI p), .int 1, .int 1] [.int 1] 27 _
              refine go_blk (pc2 := 119) (L2 := [.ref 1, .int (nI kk), .int (nI mm), .int (nI s), .int (nI p), .int 1, .int 1]) (st2 := [.int 1, .int 1]) (M2 := (A, G, PF)) (hs2 := []) (C := True) [(.iload 5, 0, 0)] [] (by decide +kernel) rfl trivial ?_
              refine go_ifz (cnd := .eq) (off := 12) 131 (by decide +kernel) (by decide) (fun (h : (1 : Int32) = 0) => absurd h (by decide)) (fun _ => ?_)
              refine go_blk (pc2 := 124) (L2 := [.ref 1, .int (nI kk), .int (nI mm), .int (nI s), .int (nI p), .int 1, .int 1]) (st2 := [.int 1, .int 1]) (M2 := (A, G, PF)) (hs2 := []) (C := True) [(.iload 6, 0, 0)] [] (by decide +kernel) rfl trivial ?_
              refine go_ifz (cnd := .eq) (off := 7) 131 (by decide +kernel) (by decide) (fun (h : (1 : Int32) = 0) => absurd h (by decide)) (fun _ => ?_)
              refine go_blk (pc2 := 128) (L2 := [.ref 1, .int (nI kk), .int (nI mm), .int (nI s), .int (nI p), .int 1, .int 1]) (st2 := [.int 1, .int 1]) (M2 := (A, G, PF)) (hs2 := []) (C := True) [(.iconst 1, 0, 0)] [] (by decide +kernel) rfl trivial ?_
              refine go_goto (off := 4) 132 (by decide +kernel) (by decide) ?_
              refine go_cmp (cnd := .eq) (off := 7) 139 (by decide +kernel) (by decide) (fun _ => ?_) (fun (h : ¬ (1 : Int32) = 1) => absurd h (by decide))
              refine go_blk (pc2 := 140) (L2 := [.ref 1, .int (nI kk), .int (nI mm), .int (nI s), .int (nI p), .int 1, .int 1]) (st2 := [.int 0]) (M2 := (A, G, PF)) (hs2 := []) (C := True) [(.iconst 0, 0, 0)] [] (by decide +kernel) rfl trivial ?_
              exact go_retz (by decide +kernel) rfl (Or.inl rfl) (pv0 (by simp only [Contr]; simp_all))
            · rw [bi_f hb19]
              show Go l ro0 mX0_contradict 27 (A, G, PF) 117 [.ref 1, .int (nI kk), .int (nI mm), .int (nI s), .int (nI p), .int 1, .int 1] [.int 0] 27 _
              refine go_blk (pc2 := 119) (L2 := [.ref 1, .int (nI kk), .int (nI mm), .int (nI s), .int (nI p), .int 1, .int 1]) (st2 := [.int 1, .int 0]) (M2 := (A, G, PF)) (hs2 := []) (C := True) [(.iload 5, 0, 0)] [] (by decide +kernel) rfl trivial ?_
              refine go_ifz (cnd := .eq) (off := 12) 131 (by decide +kernel) (by decide) (fun (h : (1 : Int32) = 0) => absurd h (by decide)) (fun _ => ?_)
              refine go_blk (pc2 := 124) (L2 := [.ref 1, .int (nI kk), .int (nI mm), .int (nI s), .int (nI p), .int 1, .int 1]) (st2 := [.int 1, .int 0]) (M2 := (A, G, PF)) (hs2 := []) (C := True) [(.iload 6, 0, 0)] [] (by decide +kernel) rfl trivial ?_
              refine go_ifz (cnd := .eq) (off := 7) 131 (by decide +kernel) (by decide) (fun (h : (1 : Int32) = 0) => absurd h (by decide)) (fun _ => ?_)
              refine go_blk (pc2 := 128) (L2 := [.ref 1, .int (nI kk), .int (nI mm), .int (nI s), .int (nI p), .int 1, .int 1]) (st2 := [.int 1, .int 0]) (M2 := (A, G, PF)) (hs2 := []) (C := True) [(.iconst 1, 0, 0)] [] (by decide +kernel) rfl trivial ?_
              refine go_goto (off := 4) 132 (by decide +kernel) (by decide) ?_
              refine go_cmp (cnd := .eq) (off := 7) 139 (by decide +kernel) (by decide) (fun (h : (0 : Int32) = 1) => absurd h (by decide)) (fun _ => ?_)
              refine go_blk (pc2 := 136) (L2 := [.ref 1, .int (nI kk), .int (nI mm), .int (nI s), .int (nI p), .int 1, .int 1]) (st2 := [.int 1]) (M2 := (A, G, PF)) (hs2 := []) (C := True) [(.iconst 1, 0, 0)] [] (by decide +kernel) rfl trivial ?_
              refine go_goto (off := 4) 140 (by decide +kernel) (by decide) ?_
              exact go_retz (by decide +kernel) rfl (Or.inr rfl) (pv1 (by simp only [Contr]; simp_all))
          · rw [bi_f hb17]
            show Go l ro0 mX0_contradict 27 (A, G, PF) 95 [.ref 1, .int (nI kk), .int (nI mm), .int (nI s), .int (nI p), .int 1, .int 1] [.int 0] 27 _
            refine go_ifz (cnd := .ne) (off := 5) 100 (by decide +kernel) (by decide) (fun (h : ¬ (0 : Int32) = 0) => absurd h (by decide)) (fun _ => ?_)
            refine go_blk (pc2 := 99) (L2 := [.ref 1, .int (nI kk), .int (nI mm), .int (nI s), .int (nI p), .int 1, .int 1]) (st2 := [.int 0]) (M2 := (A, G, PF)) (hs2 := []) (C := True) [(.iconst 0, 0, 0)] [] (by decide +kernel) rfl trivial ?_
            exact go_retz (by decide +kernel) rfl (Or.inl rfl) (pv0 (by simp only [Contr]; simp_all))
    · skip
      refine go_blk (pc2 := 35) (L2 := [.ref 1, .int (nI kk), .int (nI mm), .int (nI s), .int (nI p), .null, .null]) (st2 := [.int 0]) (M2 := (A, G, PF)) (hs2 := []) (C := True) [(.iconst 0, 0, 0)] [] (by decide +kernel) rfl trivial ?_
      exact go_retz (by decide +kernel) rfl (Or.inl rfl) (pv0 (by simp only [Contr]; simp_all))
set_option maxRecDepth 100000 in
set_option maxHeartbeats 4000000 in
theorem li_X0_hasFunction (l : Launch) (A : Nat → Nat → Int32) (G : Nat → Nat → Int64) (s : Nat) (hs : s < 32) (p : Nat) (hp : p < 5) (hF : FOk A) (k : Nat) (hk5 : k < 5) (hall : ∀ k2, k2 < k → ∀ m, m < k2 → ¬ Contr A s p k2 m) (hout : (∀ m, m < k → ¬ Contr A s p k m) → ∀ j : Value, Go l ro0 mX0_hasFunction 27 (A, G, PF) 2 [.ref 1, .int (nI s), .int (nI p), .int (nI (k + 1)), j] [] 27 (pv (bi (HasF A s p)) (A, G, PF))) : ∀ m, m ≤ k → (∀ m2, m2 < m → ¬ Contr A s p k m2) → Go l ro0 mX0_hasFunction 27 (A, G, PF) 10 [.ref 1, .int (nI s), .int (nI p), .int (nI k), .int (nI m)] [] 27 (pv (bi (HasF A s p)) (A, G, PF)) := by
  refine down k (fun m hk ih hinv  => ?_)
  refine go_blk (pc2 := 13) (L2 := [.ref 1, .int (nI s), .int (nI p), .int (nI k), .int (nI m)]) (st2 := [.int (nI k), .int (nI m)]) (M2 := (A, G, PF)) (hs2 := []) (C := True) [(.iload 4, 0, 0), (.iload_n 3, 0, 0)] [] (by decide +kernel) rfl trivial ?_
  refine go_cmp (cnd := .ge) (off := 23) 36 (by decide +kernel) (by decide) (fun (c1 : (nI k) ≤ (nI m)) => ?_) (fun (c1 : ¬ (nI k) ≤ (nI m)) => ?_)
  · skip
    replace c1 : k ≤ m := (nx_le (a := k) (b := m) rfl rfl (by omega) (by omega)).mp c1
    refine go_blk (pc2 := 39) (L2 := [.ref 1, .int (nI s), .int (nI p), .int ((nI k) + 1), .int (nI m)]) (st2 := []) (M2 := (A, G, PF)) (hs2 := []) (C := True) [(.iinc 3 1, 0, 0)] [] (by decide +kernel) rfl trivial ?_
    refine go_goto (off := -37) 2 (by decide +kernel) (by decide) ?_
    exact go_as (hout (fun m2 h2 => hinv m2 (by omega)) (.int (nI m))) rfl (by simp only [nI_1]) rfl
  · skip
    replace c1 : ¬ k ≤ m := fun zz => c1 ((nx_le (a := k) (b := m) rfl rfl (by omega) (by omega)).mpr zz)
    refine go_blk (pc2 := 22) (L2 := [.ref 1, .int (nI s), .int (nI p), .int (nI k), .int (nI m)]) (st2 := [.int (nI p), .int (nI s), .int (nI m), .int (nI k), .ref 1]) (M2 := (A, G, PF)) (hs2 := []) (C := True) [(.aload_n 0, 0, 0), (.iload_n 3, 0, 0), (.iload 4, 0, 0), (.iload_n 1, 0, 0), (.iload_n 2, 0, 0)] [] (by decide +kernel) rfl trivial ?_
    refine go_call (Y2 := mX0_contradict) (n2 := 27) (st := []) [.ref 1] [.int (nI k), .int (nI m), .int (nI s), .int (nI p)] ck_0_53 cwX0_contradict rfl (by decide +kernel) rfl (fun h => absurd h (by decide)) (fun _ => ⟨1, rfl, by decide, rfl⟩) (Nat.le_of_ble_eq_true rfl) (Or.inl rfl) (fun _ _ _ h => h) (s_X0_contradict l A G s hs p hp k m (by omega) (by omega) hF) (fun v M2 hp2 => ?_)
    obtain ⟨rfl, rfl⟩ := hp2
    rcases Classical.em (Contr A s p k m) with hb3 | hb3
    · rw [bi_t hb3]
      show Go l ro0 mX0_hasFunction 27 (A, G, PF) 25 [.ref 1, .int (nI s), .int (nI p), .int (nI k), .int (nI m)] [.int 1] 27 _
      refine go_ifz (cnd := .eq) (off := 5) 30 (by decide +kernel) (by decide) (fun (h : (1 : Int32) = 0) => absurd h (by decide)) (fun _ => ?_)
      refine go_blk (pc2 := 29) (L2 := [.ref 1, .int (nI s), .int (nI p), .int (nI k), .int (nI m)]) (st2 := [.int 0]) (M2 := (A, G, PF)) (hs2 := []) (C := True) [(.iconst 0, 0, 0)] [] (by decide +kernel) rfl trivial ?_
      exact go_retz (by decide +kernel) rfl (Or.inl rfl) (pv0 (fun q => q k hk5 m (by omega) (by assumption)))
    · rw [bi_f hb3]
      show Go l ro0 mX0_hasFunction 27 (A, G, PF) 25 [.ref 1, .int (nI s), .int (nI p), .int (nI k), .int (nI m)] [.int 0] 27 _
      refine go_ifz (cnd := .eq) (off := 5) 30 (by decide +kernel) (by decide) (fun _ => ?_) (fun (h : ¬ (0 : Int32) = 0) => absurd h (by decide))
      refine go_blk (pc2 := 33) (L2 := [.ref 1, .int (nI s), .int (nI p), .int (nI k), .int ((nI m) + 1)]) (st2 := []) (M2 := (A, G, PF)) (hs2 := []) (C := True) [(.iinc 4 1, 0, 0)] [] (by decide +kernel) rfl trivial ?_
      refine go_goto (off := -23) 10 (by decide +kernel) (by decide) ?_
      exact go_as (ih (by omega) (fun m2 h2 => by by_cases e : m2 = m; (subst e; assumption); exact hinv m2 (by omega)) ) rfl (by simp only [nI_1]) rfl
set_option maxRecDepth 100000 in
set_option maxHeartbeats 4000000 in
theorem lo_X0_hasFunction (l : Launch) (A : Nat → Nat → Int32) (G : Nat → Nat → Int64) (s : Nat) (hs : s < 32) (p : Nat) (hp : p < 5) (hF : FOk A) : ∀ k, k ≤ 5 → (∀ k2, k2 < k → ∀ m, m < k2 → ¬ Contr A s p k2 m) → ∀ (j : Value), Go l ro0 mX0_hasFunction 27 (A, G, PF) 2 [.ref 1, .int (nI s), .int (nI p), .int (nI k), j] [] 27 (pv (bi (HasF A s p)) (A, G, PF)) := by
  refine down 5 (fun k hk ih hinv j => ?_)
  refine go_blk (pc2 := 4) (L2 := [.ref 1, .int (nI s), .int (nI p), .int (nI k), j]) (st2 := [.int 5, .int (nI k)]) (M2 := (A, G, PF)) (hs2 := []) (C := True) [(.iload_n 3, 0, 0), (.iconst 5, 0, 0)] [] (by decide +kernel) rfl trivial ?_
  refine go_cmp (cnd := .ge) (off := 38) 42 (by decide +kernel) (by decide) (fun (c1 : 5 ≤ (nI k)) => ?_) (fun (c1 : ¬ 5 ≤ (nI k)) => ?_)
  · skip
    replace c1 : 5 ≤ k := (nx_le (a := 5) (b := k) rfl rfl (by omega) (by omega)).mp c1
    refine go_blk (pc2 := 43) (L2 := [.ref 1, .int (nI s), .int (nI p), .int (nI k), j]) (st2 := [.int 1]) (M2 := (A, G, PF)) (hs2 := []) (C := True) [(.iconst 1, 0, 0)] [] (by decide +kernel) rfl trivial ?_
    exact go_retz (by decide +kernel) rfl (Or.inr rfl) (pv1 (fun k2 h2 => hinv k2 (by omega)))
  · skip
    replace c1 : ¬ 5 ≤ k := fun zz => c1 ((nx_le (a := 5) (b := k) rfl rfl (by omega) (by omega)).mpr zz)
    refine go_blk (pc2 := 10) (L2 := [.ref 1, .int (nI s), .int (nI p), .int (nI k), .int 0]) (st2 := []) (M2 := (A, G, PF)) (hs2 := []) (C := True) [(.iconst 0, 0, 0), (.istore 4, 0, 0)] [] (by decide +kernel) rfl trivial ?_
    exact li_X0_hasFunction l A G s hs p hp hF k (by omega) hinv (fun h j2 => ih (by omega) (fun k2 h2 => by by_cases e : k2 = k; (subst e; exact h); exact hinv k2 (by omega)) j2) 0 (by omega) (fun m2 h2 => absurd h2 (by omega))
set_option maxRecDepth 100000 in
set_option maxHeartbeats 4000000 in
theorem s_X0_hasFunction (l : Launch) (A : Nat → Nat → Int32) (G : Nat → Nat → Int64) (s : Nat) (hs : s < 32) (p : Nat) (hp : p < 5) (hF : FOk A) : Sem l mX0_hasFunction [.ref 1, .int (nI s), .int (nI p)] 27 (A, G, PF) 27 (pv (bi (HasF A s p)) (A, G, PF)) := by
  refine sem_of_go (by decide) rfl (by decide) (by decide) rfl (Nat.le_of_ble_eq_true rfl) ?_
  show Go l ro0 mX0_hasFunction 27 (A, G, PF) 0 [.ref 1, .int (nI s), .int (nI p), .null, .null] [] 27 (pv (bi (HasF A s p)) (A, G, PF))
  refine go_blk (pc2 := 2) (L2 := [.ref 1, .int (nI s), .int (nI p), .int 0, .null]) (st2 := []) (M2 := (A, G, PF)) (hs2 := []) (C := True) [(.iconst 0, 0, 0), (.istore_n 3, 0, 0)] [] (by decide +kernel) rfl trivial ?_
  exact lo_X0_hasFunction l A G s hs p hp hF 0 (by omega) (fun k2 h2 => absurd h2 (by omega)) _
set_option maxRecDepth 100000 in
set_option maxHeartbeats 4000000 in
theorem lp_X1_pairsNeeded (l : Launch) (A : Nat → Nat → Int32) (G : Nat → Nat → Int64) (p : Nat) (hp : p < 5) : ∀ t, t ≤ 3 → Go l ro0 mX1_pairsNeeded 27 (A, G, PF) 4 [.int (nI p), .int (pnd p t), .int (nI t)] [] 27 (pv (pnd p 3) (A, G, PF)) := by
  refine down 3 (fun t hk ih  => ?_)
  refine go_blk (pc2 := 6) (L2 := [.int (nI p), .int (pnd p t), .int (nI t)]) (st2 := [.int 3, .int (nI t)]) (M2 := (A, G, PF)) (hs2 := []) (C := True) [(.iload_n 2, 0, 0), (.iconst 3, 0, 0)] [] (by decide +kernel) rfl trivial ?_
  refine go_cmp (cnd := .ge) (off := 35) 41 (by decide +kernel) (by decide) (fun (c1 : 3 ≤ (nI t)) => ?_) (fun (c1 : ¬ 3 ≤ (nI t)) => ?_)
  · skip
    replace c1 : 3 ≤ t := (nx_le (a := 3) (b := t) rfl rfl (by omega) (by omega)).mp c1
    refine go_blk (pc2 := 42) (L2 := [.int (nI p), .int (pnd p t), .int (nI t)]) (st2 := [.int (pnd p t)]) (M2 := (A, G, PF)) (hs2 := []) (C := True) [(.iload_n 1, 0, 0)] [] (by decide +kernel) rfl trivial ?_
    exact go_reti (by decide +kernel) rfl (pve (by rw [show t = 3 by omega]))
  · skip
    replace c1 : ¬ 3 ≤ t := fun zz => c1 ((nx_le (a := 3) (b := t) rfl rfl (by omega) (by omega)).mpr zz)
    refine go_blk (pc2 := 20) (L2 := [.int (nI p), .int (pnd p t), .int (nI t)]) (st2 := [.int (rov 101 t), .int (rov 100 t), .int (nI p)]) (M2 := (A, G, PF)) (hs2 := []) (C := ((nI t) = nI t ∧ t < 3) ∧ ((nI t) = nI t ∧ t < 3) ∧ True) [(.iload_n 0, 0, 0), (.getstatic 61, 100, 0), (.iload_n 2, 0, 0), (.iaload, 0, 0), (.getstatic 64, 101, 0), (.iload_n 2, 0, 0), (.iaload, 0, 0)] [t, t] (by decide +kernel) rfl ⟨⟨rfl, by omega⟩, ⟨rfl, by omega⟩, trivial⟩ ?_
    refine go_call (Y2 := mX5_areEqual) (n2 := 27) (st := []) [] [.int (nI p), .int (rov 100 t), .int (rov 101 t)] ck_1_67 cwX5_areEqual rfl (by decide +kernel) rfl (fun _ => rfl) (fun h => absurd rfl h) (Nat.le_of_ble_eq_true rfl) (Or.inl rfl) (fun _ _ _ h => h) (s_X5_areEqual l A G p (prt 100 t) (prt 101 t) (rov 100 t) (rov 101 t) (by omega) (prt_ok t (by omega)).2.2.1 (prt_ok t (by omega)).2.2.2 (prt_ok t (by omega)).1 (prt_ok t (by omega)).2.1) (fun v M2 hp2 => ?_)
    obtain ⟨rfl, rfl⟩ := hp2
    rcases Classical.em (Eq3 p (prt 100 t) (prt 101 t)) with hb3 | hb3
    · rw [bi_t hb3]
      show Go l ro0 mX1_pairsNeeded 27 (A, G, PF) 23 [.int (nI p), .int (pnd p t), .int (nI t)] [.int 1] 27 _
      refine go_ifz (cnd := .eq) (off := 12) 35 (by decide +kernel) (by decide) (fun (h : (1 : Int32) = 0) => absurd h (by decide)) (fun _ => ?_)
      refine go_blk (pc2 := 30) (L2 := [.int (nI p), .int (pnd p t), .int (nI t)]) (st2 := [.int (5 + (nI t)), .int (pnd p t)]) (M2 := (A, G, PF)) (hs2 := []) (C := True) [(.iload_n 1, 0, 0), (.iconst 5, 0, 0), (.iload_n 2, 0, 0), (.iadd, 0, 0)] [] (by decide +kernel) rfl trivial ?_
      refine go_call (Y2 := mX5_onPlane) (n2 := 27) (st := [.int (pnd p t)]) [] [.int (5 + (nI t))] ck_1_71 cwX5_onPlane rfl (by decide +kernel) rfl (fun _ => rfl) (fun h => absurd rfl h) (Nat.le_of_ble_eq_true rfl) (Or.inl rfl) (fun _ _ _ h => h) (s_X5_onPlane l A G (5 + (nI t))) (fun v M2 hp4 => ?_)
      obtain ⟨rfl, rfl⟩ := hp4
      show Go l ro0 mX1_pairsNeeded 27 (A, G, PF) 33 [.int (nI p), .int (pnd p t), .int (nI t)] [.int ((1 <<< ((0 + (5 + (nI t))) &&& 31)) ||| (1 <<< ((8 + (5 + (nI t))) &&& 31))), .int (pnd p t)] 27 _
      refine go_blk (pc2 := 38) (L2 := [.int (nI p), .int ((pnd p t) ||| ((1 <<< ((0 + (5 + (nI t))) &&& 31)) ||| (1 <<< ((8 + (5 + (nI t))) &&& 31)))), .int ((nI t) + 1)]) (st2 := []) (M2 := (A, G, PF)) (hs2 := []) (C := True) [(.ior, 0, 0), (.istore_n 1, 0, 0), (.iinc 2 1, 0, 0)] [] (by decide +kernel) rfl trivial ?_
      refine go_goto (off := -34) 4 (by decide +kernel) (by decide) ?_
      exact go_as (ih (by omega) ) rfl (by first | rw [pnd_t (by assumption), nI_1] | rw [pnd_f (by assumption), nI_1]) rfl
    · rw [bi_f hb3]
      show Go l ro0 mX1_pairsNeeded 27 (A, G, PF) 23 [.int (nI p), .int (pnd p t), .int (nI t)] [.int 0] 27 _
      refine go_ifz (cnd := .eq) (off := 12) 35 (by decide +kernel) (by decide) (fun _ => ?_) (fun (h : ¬ (0 : Int32) = 0) => absurd h (by decide))
      refine go_blk (pc2 := 38) (L2 := [.int (nI p), .int (pnd p t), .int ((nI t) + 1)]) (st2 := []) (M2 := (A, G, PF)) (hs2 := []) (C := True) [(.iinc 2 1, 0, 0)] [] (by decide +kernel) rfl trivial ?_
      refine go_goto (off := -34) 4 (by decide +kernel) (by decide) ?_
      exact go_as (ih (by omega) ) rfl (by first | rw [pnd_t (by assumption), nI_1] | rw [pnd_f (by assumption), nI_1]) rfl
set_option maxRecDepth 100000 in
set_option maxHeartbeats 4000000 in
theorem s_X1_pairsNeeded (l : Launch) (A : Nat → Nat → Int32) (G : Nat → Nat → Int64) (p : Nat) (hp : p < 5) : Sem l mX1_pairsNeeded [.int (nI p)] 27 (A, G, PF) 27 (pv (pnd p 3) (A, G, PF)) := by
  refine sem_of_go (by decide) rfl (by decide) (by decide) rfl (Nat.le_of_ble_eq_true rfl) ?_
  show Go l ro0 mX1_pairsNeeded 27 (A, G, PF) 0 [.int (nI p), .null, .null] [] 27 (pv (pnd p 3) (A, G, PF))
  refine go_blk (pc2 := 4) (L2 := [.int (nI p), .int 0, .int 0]) (st2 := []) (M2 := (A, G, PF)) (hs2 := []) (C := True) [(.iconst 0, 0, 0), (.istore_n 1, 0, 0), (.iconst 0, 0, 0), (.istore_n 2, 0, 0)] [] (by decide +kernel) rfl trivial ?_
  exact lp_X1_pairsNeeded l A G p hp 0 (by omega)
set_option maxRecDepth 100000 in
set_option maxHeartbeats 4000000 in
theorem lp_X1_pairsSought (l : Launch) (A : Nat → Nat → Int32) (G : Nat → Nat → Int64) (p : Nat) (hp : p < 5) : ∀ t, t ≤ 3 → Go l ro0 mX1_pairsSought 27 (A, G, PF) 4 [.int (nI p), .int (psg p t), .int (nI t)] [] 27 (pv (psg p 3) (A, G, PF)) := by
  refine down 3 (fun t hk ih  => ?_)
  refine go_blk (pc2 := 6) (L2 := [.int (nI p), .int (psg p t), .int (nI t)]) (st2 := [.int 3, .int (nI t)]) (M2 := (A, G, PF)) (hs2 := []) (C := True) [(.iload_n 2, 0, 0), (.iconst 3, 0, 0)] [] (by decide +kernel) rfl trivial ?_
  refine go_cmp (cnd := .ge) (off := 37) 43 (by decide +kernel) (by decide) (fun (c1 : 3 ≤ (nI t)) => ?_) (fun (c1 : ¬ 3 ≤ (nI t)) => ?_)
  · skip
    replace c1 : 3 ≤ t := (nx_le (a := 3) (b := t) rfl rfl (by omega) (by omega)).mp c1
    refine go_blk (pc2 := 44) (L2 := [.int (nI p), .int (psg p t), .int (nI t)]) (st2 := [.int (psg p t)]) (M2 := (A, G, PF)) (hs2 := []) (C := True) [(.iload_n 1, 0, 0)] [] (by decide +kernel) rfl trivial ?_
    exact go_reti (by decide +kernel) rfl (pve (by rw [show t = 3 by omega]))
  · skip
    replace c1 : ¬ 3 ≤ t := fun zz => c1 ((nx_le (a := 3) (b := t) rfl rfl (by omega) (by omega)).mpr zz)
    refine go_blk (pc2 := 20) (L2 := [.int (nI p), .int (psg p t), .int (nI t)]) (st2 := [.int (rov 101 t), .int (rov 100 t), .int (nI p)]) (M2 := (A, G, PF)) (hs2 := []) (C := ((nI t) = nI t ∧ t < 3) ∧ ((nI t) = nI t ∧ t < 3) ∧ True) [(.iload_n 0, 0, 0), (.getstatic 61, 100, 0), (.iload_n 2, 0, 0), (.iaload, 0, 0), (.getstatic 64, 101, 0), (.iload_n 2, 0, 0), (.iaload, 0, 0)] [t, t] (by decide +kernel) rfl ⟨⟨rfl, by omega⟩, ⟨rfl, by omega⟩, trivial⟩ ?_
    refine go_call (Y2 := mX5_areEqual) (n2 := 27) (st := []) [] [.int (nI p), .int (rov 100 t), .int (rov 101 t)] ck_1_67 cwX5_areEqual rfl (by decide +kernel) rfl (fun _ => rfl) (fun h => absurd rfl h) (Nat.le_of_ble_eq_true rfl) (Or.inl rfl) (fun _ _ _ h => h) (s_X5_areEqual l A G p (prt 100 t) (prt 101 t) (rov 100 t) (rov 101 t) (by omega) (prt_ok t (by omega)).2.2.1 (prt_ok t (by omega)).2.2.2 (prt_ok t (by omega)).1 (prt_ok t (by omega)).2.1) (fun v M2 hp2 => ?_)
    obtain ⟨rfl, rfl⟩ := hp2
    rcases Classical.em (Eq3 p (prt 100 t) (prt 101 t)) with hb3 | hb3
    · rw [bi_t hb3]
      show Go l ro0 mX1_pairsSought 27 (A, G, PF) 23 [.int (nI p), .int (psg p t), .int (nI t)] [.int 1] 27 _
      refine go_ifz (cnd := .ne) (off := 14) 37 (by decide +kernel) (by decide) (fun _ => ?_) (fun (h : (1 : Int32) = 0) => absurd h (by decide))
      refine go_blk (pc2 := 40) (L2 := [.int (nI p), .int (psg p t), .int ((nI t) + 1)]) (st2 := []) (M2 := (A, G, PF)) (hs2 := []) (C := True) [(.iinc 2 1, 0, 0)] [] (by decide +kernel) rfl trivial ?_
      refine go_goto (off := -36) 4 (by decide +kernel) (by decide) ?_
      exact go_as (ih (by omega) ) rfl (by first | rw [psg_t (by assumption), nI_1] | rw [psg_f (by assumption), nI_1]) rfl
    · rw [bi_f hb3]
      show Go l ro0 mX1_pairsSought 27 (A, G, PF) 23 [.int (nI p), .int (psg p t), .int (nI t)] [.int 0] 27 _
      refine go_ifz (cnd := .ne) (off := 14) 37 (by decide +kernel) (by decide) (fun (h : ¬ (0 : Int32) = 0) => absurd h (by decide)) (fun _ => ?_)
      refine go_blk (pc2 := 32) (L2 := [.int (nI p), .int (psg p t), .int (nI t)]) (st2 := [.int (5 + (nI t)), .int 24, .int (psg p t)]) (M2 := (A, G, PF)) (hs2 := []) (C := True) [(.iload_n 1, 0, 0), (.bipush 24, 0, 0), (.iconst 5, 0, 0), (.iload_n 2, 0, 0), (.iadd, 0, 0)] [] (by decide +kernel) rfl trivial ?_
      refine go_call (Y2 := mX5_side) (n2 := 27) (st := [.int (psg p t)]) [] [.int 24, .int (5 + (nI t))] ck_1_74 cwX5_side rfl (by decide +kernel) rfl (fun _ => rfl) (fun h => absurd rfl h) (Nat.le_of_ble_eq_true rfl) (Or.inl rfl) (fun _ _ _ h => h) (s_X5_side l A G 24 (5 + (nI t))) (fun v M2 hp4 => ?_)
      obtain ⟨rfl, rfl⟩ := hp4
      show Go l ro0 mX1_pairsSought 27 (A, G, PF) 35 [.int (nI p), .int (psg p t), .int (nI t)] [.int (1 <<< ((24 + (5 + (nI t))) &&& 31)), .int (psg p t)] 27 _
      refine go_blk (pc2 := 40) (L2 := [.int (nI p), .int ((psg p t) ||| (1 <<< ((24 + (5 + (nI t))) &&& 31))), .int ((nI t) + 1)]) (st2 := []) (M2 := (A, G, PF)) (hs2 := []) (C := True) [(.ior, 0, 0), (.istore_n 1, 0, 0), (.iinc 2 1, 0, 0)] [] (by decide +kernel) rfl trivial ?_
      refine go_goto (off := -36) 4 (by decide +kernel) (by decide) ?_
      exact go_as (ih (by omega) ) rfl (by first | rw [psg_t (by assumption), nI_1] | rw [psg_f (by assumption), nI_1]) rfl
set_option maxRecDepth 100000 in
set_option maxHeartbeats 4000000 in
theorem s_X1_pairsSought (l : Launch) (A : Nat → Nat → Int32) (G : Nat → Nat → Int64) (p : Nat) (hp : p < 5) : Sem l mX1_pairsSought [.int (nI p)] 27 (A, G, PF) 27 (pv (psg p 3) (A, G, PF)) := by
  refine sem_of_go (by decide) rfl (by decide) (by decide) rfl (Nat.le_of_ble_eq_true rfl) ?_
  show Go l ro0 mX1_pairsSought 27 (A, G, PF) 0 [.int (nI p), .null, .null] [] 27 (pv (psg p 3) (A, G, PF))
  refine go_blk (pc2 := 4) (L2 := [.int (nI p), .int 0, .int 0]) (st2 := []) (M2 := (A, G, PF)) (hs2 := []) (C := True) [(.iconst 0, 0, 0), (.istore_n 1, 0, 0), (.iconst 0, 0, 0), (.istore_n 2, 0, 0)] [] (by decide +kernel) rfl trivial ?_
  exact lp_X1_pairsSought l A G p hp 0 (by omega)
end
section
theorem u2_self {α : Type} (f : Nat → Nat → α) (o k : Nat) : u2 f o k (f o k) = f := by
  funext a b
  unfold u2
  split
  · rename_i h
    rw [h.1, h.2]
  · rfl
theorem u2_u2 {α : Type} (f : Nat → Nat → α) (o k : Nat) (v w : α) : u2 (u2 f o k v) o k w = u2 f o k w := by
  funext a b
  unfold u2
  split <;> rfl
def fit (A : Nat → Nat → Int32) (nd : Int32) (n : Nat) : Prop := (A 21 n &&& nd) = nd
noncomputable def anyf (A : Nat → Nat → Int32) (nd : Int32) : Nat → Int32
  | 0 => 0
  | k + 1 => @ite Int32 (fit A nd k) (Classical.propDecidable _) 1 (anyf A nd k)
noncomputable def mis (A : Nat → Nat → Int32) (nd sg : Int32) : Nat → Int32
  | 0 => sg
  | k + 1 => @ite Int32 (fit A nd k) (Classical.propDecidable _) (mis A nd sg k &&& (A 21 k ^^^ (-1))) (mis A nd sg k)
theorem anyf_t {A : Nat → Nat → Int32} {nd : Int32} {k : Nat} (h : fit A nd k) : anyf A nd (k + 1) = 1 := if_pos h
theorem anyf_f {A : Nat → Nat → Int32} {nd : Int32} {k : Nat} (h : ¬ fit A nd k) : anyf A nd (k + 1) = anyf A nd k := if_neg h
theorem mis_t {A : Nat → Nat → Int32} {nd sg : Int32} {k : Nat} (h : fit A nd k) : mis A nd sg (k + 1) = (mis A nd sg k &&& (A 21 k ^^^ (-1))) := if_pos h
theorem mis_f {A : Nat → Nat → Int32} {nd sg : Int32} {k : Nat} (h : ¬ fit A nd k) : mis A nd sg (k + 1) = mis A nd sg k := if_neg h
theorem anyf_up {A : Nat → Nat → Int32} {nd : Int32} {k m : Nat} (h : anyf A nd k = 1) (hk : k ≤ m) : anyf A nd m = 1 := by
  induction m with
  | zero => rw [show k = 0 by omega] at h; exact h
  | succ m ih =>
    by_cases e : k = m + 1
    · rw [← e]; exact h
    · have := ih (by omega)
      rcases Classical.em (fit A nd m) with q | q
      · exact anyf_t q
      · rw [anyf_f q]; exact this
theorem mis_up {A : Nat → Nat → Int32} {nd sg : Int32} {k m : Nat} (h : mis A nd sg k = 0) (hk : k ≤ m) : mis A nd sg m = 0 := by
  induction m with
  | zero => rw [show k = 0 by omega] at h; exact h
  | succ m ih =>
    by_cases e : k = m + 1
    · rw [← e]; exact h
    · have := ih (by omega)
      rcases Classical.em (fit A nd m) with q | q
      · rw [mis_t q, this]; exact Int32.zero_and
      · rw [mis_f q]; exact this
def HavP (A : Nat → Nat → Int32) (nd sg : Int32) (cnt : Nat) : Prop := ¬ anyf A nd cnt = 0 ∧ mis A nd sg cnt = 0
def dt (f g h : Nat → Int32) (p q r : Nat) : Int32 := f p * (g q * h r - g r * h q) - g p * (f q * h r - f r * h q) + h p * (f q * g r - f r * g q)
def fov (A : Nat → Nat → Int32) (x y z w : Int32) (t : Nat) : Int32 := A 13 t * x + A 14 t * y + A 15 t * z - A 16 t * w
def fsd (A : Nat → Nat → Int32) (x y z w : Int32) : Nat → Int32
  | 0 => 0
  | t + 1 => if fov A x y z w t = 0 then fsd A x y z w t ||| ((1 <<< ((0 + nI t) &&& 31)) ||| (1 <<< ((8 + nI t) &&& 31))) else if fov A x y z w t < 0 then fsd A x y z w t ||| ((1 <<< ((0 + nI t) &&& 31)) ||| (1 <<< ((24 + nI t) &&& 31))) else fsd A x y z w t ||| (((1 <<< ((8 + nI t) &&& 31)) ||| (1 <<< ((16 + nI t) &&& 31))) ||| (1 <<< ((24 + nI t) &&& 31)))
theorem fsd_c {A A2 : Nat → Nat → Int32} (h1 : A2 13 = A 13) (h2 : A2 14 = A 14) (h3 : A2 15 = A 15) (h4 : A2 16 = A 16) (x y z w : Int32) (t : Nat) : fsd A2 x y z w t = fsd A x y z w t := by
  induction t with
  | zero => rfl
  | succ t ih =>
    have e : fov A2 x y z w t = fov A x y z w t := by simp only [fov, h1, h2, h3, h4]
    simp only [fsd, e, ih]
def kp (A : Nat → Nat → Int32) (cnt : Nat) (x y z w : Int32) : Nat → Nat → Int32 := u2 (u2 (u2 (u2 (u2 (u2 A 17 cnt x) 18 cnt y) 19 cnt z) 20 cnt w) 21 cnt (fsd A x y z w 8)) 12 9 (A 12 9 + 1)
def D0 (A : Nat → Nat → Int32) (p q r : Nat) : Int32 := dt (A 13) (A 14) (A 15) p q r
def sgn (d : Int32) : Int32 := if d < 0 then -1 else 1
def cw (A : Nat → Nat → Int32) (p q r : Nat) : Int32 := sgn (D0 A p q r) * D0 A p q r
def cx (A : Nat → Nat → Int32) (p q r : Nat) : Int32 := sgn (D0 A p q r) * dt (A 16) (A 14) (A 15) p q r
def cy (A : Nat → Nat → Int32) (p q r : Nat) : Int32 := sgn (D0 A p q r) * dt (A 13) (A 16) (A 15) p q r
def cz (A : Nat → Nat → Int32) (p q r : Nat) : Int32 := sgn (D0 A p q r) * dt (A 13) (A 14) (A 16) p q r
def wth (v b : Int32) : Prop := -b ≤ v ∧ v ≤ b
def InB (A : Nat → Nat → Int32) (p q r : Nat) : Prop := ¬ D0 A p q r = 0 ∧ wth (cx A p q r) (20 * cw A p q r) ∧ wth (cy A p q r) (20 * cw A p q r) ∧ wth (cz A p q r) (20 * cw A p q r)
theorem pl_in {k : Nat} (hk : k < 14) : 0 ≤ nI k ∧ nI k < 14 := ⟨nI_pos' (by omega), nI_lt hk (by decide)⟩

set_option maxRecDepth 100000 in
set_option maxHeartbeats 4000000 in
theorem s_X3_count (l : Launch) (A : Nat → Nat → Int32) (G : Nat → Nat → Int64) : Sem l mX3_count [.ref 12] 27 (A, G, PF) 27 (pv (A 12 9) (A, G, PF)) := by
  refine sem_of_go (by decide) rfl (by decide) (by decide) rfl (Nat.le_of_ble_eq_true rfl) ?_
  show Go l ro0 mX3_count 27 (A, G, PF) 0 [.ref 12] [] 27 (pv (A 12 9) (A, G, PF))
  refine go_blk (pc2 := 4) (L2 := [.ref 12]) (st2 := [.int (A 12 9)]) (M2 := (A, G, PF)) (hs2 := []) (C := True) [(.aload_n 0, 0, 0), (.getfield 39, 3, 9)] [] (by decide +kernel) rfl trivial ?_
  exact go_reti (by decide +kernel) rfl (⟨rfl, rfl⟩)
set_option maxRecDepth 100000 in
set_option maxHeartbeats 4000000 in
theorem s_X3_sidesOf (l : Launch) (A : Nat → Nat → Int32) (G : Nat → Nat → Int64) (n : Nat) (hn : n < 364) : Sem l mX3_sidesOf [.ref 12, .int (nI n)] 27 (A, G, PF) 27 (pv (A 21 n) (A, G, PF)) := by
  refine sem_of_go (by decide) rfl (by decide) (by decide) rfl (Nat.le_of_ble_eq_true rfl) ?_
  show Go l ro0 mX3_sidesOf 27 (A, G, PF) 0 [.ref 12, .int (nI n)] [] 27 (pv (A 21 n) (A, G, PF))
  refine go_blk (pc2 := 1) (L2 := [.ref 12, .int (nI n)]) (st2 := [.int (nI n)]) (M2 := (A, G, PF)) (hs2 := []) (C := True) [(.iload_n 1, 0, 0)] [] (by decide +kernel) rfl trivial ?_
  refine go_ifz (cnd := .lt) (off := 19) 20 (by decide +kernel) (by decide) (fun (h : (nI n) < 0) => absurd h (fun zz => absurd ((nx_lt (a := n) (b := 0) rfl rfl (by omega) (by omega)).mp zz) (by omega))) (fun _ => ?_)
  refine go_blk (pc2 := 8) (L2 := [.ref 12, .int (nI n)]) (st2 := [.int 364, .int (nI n)]) (M2 := (A, G, PF)) (hs2 := []) (C := True) [(.iload_n 1, 0, 0), (.sipush 364, 0, 0)] [] (by decide +kernel) rfl trivial ?_
  refine go_cmp (cnd := .ge) (off := 12) 20 (by decide +kernel) (by decide) (fun (h : 364 ≤ (nI n)) => absurd h (fun zz => absurd ((nx_le (a := 364) (b := n) rfl rfl (by omega) (by omega)).mp zz) (by omega))) (fun _ => ?_)
  refine go_blk (pc2 := 17) (L2 := [.ref 12, .int (nI n)]) (st2 := [.int (A 21 n)]) (M2 := (A, G, PF)) (hs2 := []) (C := ((nI n) = nI n ∧ n < 364) ∧ True) [(.aload_n 0, 0, 0), (.getfield 36, 3, 8), (.iload_n 1, 0, 0), (.iaload, 0, 0)] [n] (by decide +kernel) rfl ⟨⟨rfl, by omega⟩, trivial⟩ ?_
  refine go_goto (off := 4) 21 (by decide +kernel) (by decide) ?_
  exact go_reti (by decide +kernel) rfl (⟨rfl, rfl⟩)
set_option maxRecDepth 100000 in
set_option maxHeartbeats 4000000 in
theorem s_X3_divisorOf (l : Launch) (A : Nat → Nat → Int32) (G : Nat → Nat → Int64) (n : Nat) (hn : n < 364) : Sem l mX3_divisorOf [.ref 12, .int (nI n)] 27 (A, G, PF) 27 (pv (A 20 n) (A, G, PF)) := by
  refine sem_of_go (by decide) rfl (by decide) (by decide) rfl (Nat.le_of_ble_eq_true rfl) ?_
  show Go l ro0 mX3_divisorOf 27 (A, G, PF) 0 [.ref 12, .int (nI n)] [] 27 (pv (A 20 n) (A, G, PF))
  refine go_blk (pc2 := 1) (L2 := [.ref 12, .int (nI n)]) (st2 := [.int (nI n)]) (M2 := (A, G, PF)) (hs2 := []) (C := True) [(.iload_n 1, 0, 0)] [] (by decide +kernel) rfl trivial ?_
  refine go_ifz (cnd := .lt) (off := 19) 20 (by decide +kernel) (by decide) (fun (h : (nI n) < 0) => absurd h (fun zz => absurd ((nx_lt (a := n) (b := 0) rfl rfl (by omega) (by omega)).mp zz) (by omega))) (fun _ => ?_)
  refine go_blk (pc2 := 8) (L2 := [.ref 12, .int (nI n)]) (st2 := [.int 364, .int (nI n)]) (M2 := (A, G, PF)) (hs2 := []) (C := True) [(.iload_n 1, 0, 0), (.sipush 364, 0, 0)] [] (by decide +kernel) rfl trivial ?_
  refine go_cmp (cnd := .ge) (off := 12) 20 (by decide +kernel) (by decide) (fun (h : 364 ≤ (nI n)) => absurd h (fun zz => absurd ((nx_le (a := 364) (b := n) rfl rfl (by omega) (by omega)).mp zz) (by omega))) (fun _ => ?_)
  refine go_blk (pc2 := 17) (L2 := [.ref 12, .int (nI n)]) (st2 := [.int (A 20 n)]) (M2 := (A, G, PF)) (hs2 := []) (C := ((nI n) = nI n ∧ n < 364) ∧ True) [(.aload_n 0, 0, 0), (.getfield 33, 3, 7), (.iload_n 1, 0, 0), (.iaload, 0, 0)] [n] (by decide +kernel) rfl ⟨⟨rfl, by omega⟩, trivial⟩ ?_
  refine go_goto (off := 4) 21 (by decide +kernel) (by decide) ?_
  exact go_reti (by decide +kernel) rfl (⟨rfl, rfl⟩)
set_option maxRecDepth 100000 in
set_option maxHeartbeats 4000000 in
theorem s_X3_sumAt (l : Launch) (A : Nat → Nat → Int32) (G : Nat → Nat → Int64) (n : Nat) (hn : n < 364) (a b c : Int32) : Sem l mX3_sumAt [.ref 12, .int (nI n), .int a, .int b, .int c] 27 (A, G, PF) 27 (pl (((a.toInt64 * (A 17 n).toInt64) + (b.toInt64 * (A 18 n).toInt64)) + (c.toInt64 * (A 19 n).toInt64)) (A, G, PF)) := by
  refine sem_of_go (by decide) rfl (by decide) (by decide) rfl (Nat.le_of_ble_eq_true rfl) ?_
  show Go l ro0 mX3_sumAt 27 (A, G, PF) 0 [.ref 12, .int (nI n), .int a, .int b, .int c] [] 27 (pl (((a.toInt64 * (A 17 n).toInt64) + (b.toInt64 * (A 18 n).toInt64)) + (c.toInt64 * (A 19 n).toInt64)) (A, G, PF))
  refine go_blk (pc2 := 1) (L2 := [.ref 12, .int (nI n), .int a, .int b, .int c]) (st2 := [.int (nI n)]) (M2 := (A, G, PF)) (hs2 := []) (C := True) [(.iload_n 1, 0, 0)] [] (by decide +kernel) rfl trivial ?_
  refine go_ifz (cnd := .lt) (off := 10) 11 (by decide +kernel) (by decide) (fun (h : (nI n) < 0) => absurd h (fun zz => absurd ((nx_lt (a := n) (b := 0) rfl rfl (by omega) (by omega)).mp zz) (by omega))) (fun _ => ?_)
  refine go_blk (pc2 := 8) (L2 := [.ref 12, .int (nI n), .int a, .int b, .int c]) (st2 := [.int 364, .int (nI n)]) (M2 := (A, G, PF)) (hs2 := []) (C := True) [(.iload_n 1, 0, 0), (.sipush 364, 0, 0)] [] (by decide +kernel) rfl trivial ?_
  refine go_cmp (cnd := .lt) (off := 5) 13 (by decide +kernel) (by decide) (fun _ => ?_) (fun (h : ¬ (nI n) < 364) => absurd h (fun zz => zz ((nx_lt (a := n) (b := 364) rfl rfl (by omega) (by omega)).mpr (by omega))))
  refine go_blk (pc2 := 46) (L2 := [.ref 12, .int (nI n), .int a, .int b, .int c]) (st2 := [.long (((a.toInt64 * ((A 17 n).toInt64)) + (b.toInt64 * ((A 18 n).toInt64))) + (c.toInt64 * ((A 19 n).toInt64)))]) (M2 := (A, G, PF)) (hs2 := []) (C := ((nI n) = nI n ∧ n < 364) ∧ ((nI n) = nI n ∧ n < 364) ∧ ((nI n) = nI n ∧ n < 364) ∧ True) [(.iload_n 2, 0, 0), (.i2l, 0, 0), (.aload_n 0, 0, 0), (.getfield 24, 3, 4), (.iload_n 1, 0, 0), (.iaload, 0, 0), (.i2l, 0, 0), (.lmul, 0, 0), (.iload_n 3, 0, 0), (.i2l, 0, 0), (.aload_n 0, 0, 0), (.getfield 27, 3, 5), (.iload_n 1, 0, 0), (.iaload, 0, 0), (.i2l, 0, 0), (.lmul, 0, 0), (.ladd, 0, 0), (.iload 4, 0, 0), (.i2l, 0, 0), (.aload_n 0, 0, 0), (.getfield 30, 3, 6), (.iload_n 1, 0, 0), (.iaload, 0, 0), (.i2l, 0, 0), (.lmul, 0, 0), (.ladd, 0, 0)] [n, n, n] (by decide +kernel) rfl ⟨⟨rfl, by omega⟩, ⟨rfl, by omega⟩, ⟨rfl, by omega⟩, trivial⟩ ?_
  exact go_retl (by decide +kernel) rfl (⟨rfl, rfl⟩)
set_option maxRecDepth 100000 in
set_option maxHeartbeats 4000000 in
theorem lp_X3_havePoint (l : Launch) (A : Nat → Nat → Int32) (G : Nat → Nat → Int64) (cnt : Nat) (hc : A 12 9 = nI cnt) (hc364 : cnt ≤ 364) (nd sg : Int32) : ∀ k, k ≤ cnt → (¬ HavP A nd sg k) → Go l ro0 mX3_havePoint 27 (A, G, PF) 5 [.ref 12, .int nd, .int sg, .int (mis A nd sg k), .int (nI k)] [] 27 (pv (bi (HavP A nd sg cnt)) (A, G, PF)) := by
  refine down cnt (fun k hk ih hinv  => ?_)
  refine go_blk (pc2 := 11) (L2 := [.ref 12, .int nd, .int sg, .int (mis A nd sg k), .int (nI k)]) (st2 := [.int (A 12 9), .int (nI k)]) (M2 := (A, G, PF)) (hs2 := []) (C := True) [(.iload 4, 0, 0), (.aload_n 0, 0, 0), (.getfield 39, 3, 9)] [] (by decide +kernel) rfl trivial ?_
  refine go_cmp (cnd := .ge) (off := 48) 59 (by decide +kernel) (by decide) (fun (c1 : (A 12 9) ≤ (nI k)) => ?_) (fun (c1 : ¬ (A 12 9) ≤ (nI k)) => ?_)
  · skip
    replace c1 : cnt ≤ k := (nx_le (a := cnt) (b := k) hc rfl (by omega) (by omega)).mp c1
    refine go_blk (pc2 := 60) (L2 := [.ref 12, .int nd, .int sg, .int (mis A nd sg k), .int (nI k)]) (st2 := [.int 0]) (M2 := (A, G, PF)) (hs2 := []) (C := True) [(.iconst 0, 0, 0)] [] (by decide +kernel) rfl trivial ?_
    exact go_retz (by decide +kernel) rfl (Or.inl rfl) (pv0 (by rw [show cnt = k by omega]; exact hinv))
  · skip
    replace c1 : ¬ cnt ≤ k := fun zz => c1 ((nx_le (a := cnt) (b := k) hc rfl (by omega) (by omega)).mpr zz)
    refine go_blk (pc2 := 19) (L2 := [.ref 12, .int nd, .int sg, .int (mis A nd sg k), .int (nI k)]) (st2 := [.int 364, .int (nI k)]) (M2 := (A, G, PF)) (hs2 := []) (C := True) [(.iload 4, 0, 0), (.sipush 364, 0, 0)] [] (by decide +kernel) rfl trivial ?_
    refine go_cmp (cnd := .ge) (off := 40) 59 (by decide +kernel) (by decide) (fun (h : 364 ≤ (nI k)) => absurd h (fun zz => absurd ((nx_le (a := 364) (b := k) rfl rfl (by omega) (by omega)).mp zz) (by omega))) (fun _ => ?_)
    refine go_blk (pc2 := 32) (L2 := [.ref 12, .int nd, .int sg, .int (mis A nd sg k), .int (nI k)]) (st2 := [.int nd, .int ((A 21 k) &&& nd)]) (M2 := (A, G, PF)) (hs2 := []) (C := ((nI k) = nI k ∧ k < 364) ∧ True) [(.aload_n 0, 0, 0), (.getfield 36, 3, 8), (.iload 4, 0, 0), (.iaload, 0, 0), (.iload_n 1, 0, 0), (.iand, 0, 0), (.iload_n 1, 0, 0)] [k] (by decide +kernel) rfl ⟨⟨rfl, by omega⟩, trivial⟩ ?_
    refine go_cmp (cnd := .ne) (off := 21) 53 (by decide +kernel) (by decide) (fun (c2 : ¬ ((A 21 k) &&& nd) = nd) => ?_) (fun (c2 : ((A 21 k) &&& nd) = nd) => ?_)
    · skip
      replace c2 : ¬ fit A nd k := c2
      refine go_blk (pc2 := 56) (L2 := [.ref 12, .int nd, .int sg, .int (mis A nd sg k), .int ((nI k) + 1)]) (st2 := []) (M2 := (A, G, PF)) (hs2 := []) (C := True) [(.iinc 4 1, 0, 0)] [] (by decide +kernel) rfl trivial ?_
      refine go_goto (off := -51) 5 (by decide +kernel) (by decide) ?_
      exact go_as (ih (by omega) (by first | (rintro ⟨q1, q2⟩; rw [mis_t (by assumption)] at q2; contradiction) | (rintro ⟨q1, q2⟩; rw [anyf_f (by assumption)] at q1; rw [mis_f (by assumption)] at q2; exact hinv ⟨q1, q2⟩)) ) rfl (by first | rw [mis_t (by assumption), nI_1] | rw [mis_f (by assumption), nI_1]) rfl
    · skip
      replace c2 : fit A nd k := c2
      refine go_blk (pc2 := 48) (L2 := [.ref 12, .int nd, .int sg, .int ((mis A nd sg k) &&& ((A 21 k) ^^^ (-1))), .int (nI k)]) (st2 := [.int ((mis A nd sg k) &&& ((A 21 k) ^^^ (-1)))]) (M2 := (A, G, PF)) (hs2 := []) (C := ((nI k) = nI k ∧ k < 364) ∧ True) [(.iload_n 3, 0, 0), (.aload_n 0, 0, 0), (.getfield 36, 3, 8), (.iload 4, 0, 0), (.iaload, 0, 0), (.iconst (-1), 0, 0), (.ixor, 0, 0), (.iand, 0, 0), (.istore_n 3, 0, 0), (.iload_n 3, 0, 0)] [k] (by decide +kernel) rfl ⟨⟨rfl, by omega⟩, trivial⟩ ?_
      refine go_ifz (cnd := .ne) (off := 5) 53 (by decide +kernel) (by decide) (fun (c3 : ¬ ((mis A nd sg k) &&& ((A 21 k) ^^^ (-1))) = 0) => ?_) (fun (c3 : ((mis A nd sg k) &&& ((A 21 k) ^^^ (-1))) = 0) => ?_)
      · skip
        refine go_blk (pc2 := 56) (L2 := [.ref 12, .int nd, .int sg, .int ((mis A nd sg k) &&& ((A 21 k) ^^^ (-1))), .int ((nI k) + 1)]) (st2 := []) (M2 := (A, G, PF)) (hs2 := []) (C := True) [(.iinc 4 1, 0, 0)] [] (by decide +kernel) rfl trivial ?_
        refine go_goto (off := -51) 5 (by decide +kernel) (by decide) ?_
        exact go_as (ih (by omega) (by first | (rintro ⟨q1, q2⟩; rw [mis_t (by assumption)] at q2; contradiction) | (rintro ⟨q1, q2⟩; rw [anyf_f (by assumption)] at q1; rw [mis_f (by assumption)] at q2; exact hinv ⟨q1, q2⟩)) ) rfl (by first | rw [mis_t (by assumption), nI_1] | rw [mis_f (by assumption), nI_1]) rfl
      · skip
        refine go_blk (pc2 := 52) (L2 := [.ref 12, .int nd, .int sg, .int ((mis A nd sg k) &&& ((A 21 k) ^^^ (-1))), .int (nI k)]) (st2 := [.int 1]) (M2 := (A, G, PF)) (hs2 := []) (C := True) [(.iconst 1, 0, 0)] [] (by decide +kernel) rfl trivial ?_
        exact go_retz (by decide +kernel) rfl (Or.inr rfl) (pv1 (by rw [← mis_t (by assumption)] at *; exact ⟨fun q => absurd ((anyf_up (anyf_t (by assumption)) (show k + 1 ≤ cnt by omega)).symm.trans q) (by decide), mis_up (by assumption) (by omega)⟩))
set_option maxRecDepth 100000 in
set_option maxHeartbeats 4000000 in
theorem s_X3_havePoint (l : Launch) (A : Nat → Nat → Int32) (G : Nat → Nat → Int64) (cnt : Nat) (hc : A 12 9 = nI cnt) (hc364 : cnt ≤ 364) (nd sg : Int32) : Sem l mX3_havePoint [.ref 12, .int nd, .int sg] 27 (A, G, PF) 27 (pv (bi (HavP A nd sg cnt)) (A, G, PF)) := by
  refine sem_of_go (by decide) rfl (by decide) (by decide) rfl (Nat.le_of_ble_eq_true rfl) ?_
  show Go l ro0 mX3_havePoint 27 (A, G, PF) 0 [.ref 12, .int nd, .int sg, .null, .null] [] 27 (pv (bi (HavP A nd sg cnt)) (A, G, PF))
  refine go_blk (pc2 := 5) (L2 := [.ref 12, .int nd, .int sg, .int sg, .int 0]) (st2 := []) (M2 := (A, G, PF)) (hs2 := []) (C := True) [(.iload_n 2, 0, 0), (.istore_n 3, 0, 0), (.iconst 0, 0, 0), (.istore 4, 0, 0)] [] (by decide +kernel) rfl trivial ?_
  exact lp_X3_havePoint l A G cnt hc hc364 nd sg 0 (by omega) (fun q => q.1 rfl)
set_option maxRecDepth 100000 in
set_option maxHeartbeats 4000000 in
theorem s_X3_isPlane (l : Launch) (A : Nat → Nat → Int32) (G : Nat → Nat → Int64) (k : Int32) : Sem l mX3_isPlane [.int k] 27 (A, G, PF) 27 (pv (bi (0 ≤ k ∧ k < 14)) (A, G, PF)) := by
  refine sem_of_go (by decide) rfl (by decide) (by decide) rfl (Nat.le_of_ble_eq_true rfl) ?_
  show Go l ro0 mX3_isPlane 27 (A, G, PF) 0 [.int k] [] 27 (pv (bi (0 ≤ k ∧ k < 14)) (A, G, PF))
  refine go_blk (pc2 := 1) (L2 := [.int k]) (st2 := [.int k]) (M2 := (A, G, PF)) (hs2 := []) (C := True) [(.iload_n 0, 0, 0)] [] (by decide +kernel) rfl trivial ?_
  refine go_ifz (cnd := .lt) (off := 13) 14 (by decide +kernel) (by decide) (fun (c1 : k < 0) => ?_) (fun (c1 : ¬ k < 0) => ?_)
  · skip
    refine go_blk (pc2 := 15) (L2 := [.int k]) (st2 := [.int 0]) (M2 := (A, G, PF)) (hs2 := []) (C := True) [(.iconst 0, 0, 0)] [] (by decide +kernel) rfl trivial ?_
    exact go_retz (by decide +kernel) rfl (Or.inl rfl) (pv0 (by grind))
  · skip
    refine go_blk (pc2 := 7) (L2 := [.int k]) (st2 := [.int 14, .int k]) (M2 := (A, G, PF)) (hs2 := []) (C := True) [(.iload_n 0, 0, 0), (.bipush 14, 0, 0)] [] (by decide +kernel) rfl trivial ?_
    refine go_cmp (cnd := .ge) (off := 7) 14 (by decide +kernel) (by decide) (fun (c2 : 14 ≤ k) => ?_) (fun (c2 : ¬ 14 ≤ k) => ?_)
    · skip
      refine go_blk (pc2 := 15) (L2 := [.int k]) (st2 := [.int 0]) (M2 := (A, G, PF)) (hs2 := []) (C := True) [(.iconst 0, 0, 0)] [] (by decide +kernel) rfl trivial ?_
      exact go_retz (by decide +kernel) rfl (Or.inl rfl) (pv0 (by grind))
    · skip
      refine go_blk (pc2 := 11) (L2 := [.int k]) (st2 := [.int 1]) (M2 := (A, G, PF)) (hs2 := []) (C := True) [(.iconst 1, 0, 0)] [] (by decide +kernel) rfl trivial ?_
      refine go_goto (off := 4) 15 (by decide +kernel) (by decide) ?_
      exact go_retz (by decide +kernel) rfl (Or.inr rfl) (pv1 (by grind))
set_option maxRecDepth 100000 in
set_option maxHeartbeats 4000000 in
theorem s_X3_determinant_13_14_15 (l : Launch) (A : Nat → Nat → Int32) (G : Nat → Nat → Int64) (p q r : Nat) (hp : p < 14) (hq : q < 14) (hr : r < 14) : Sem l mX3_determinant [.ref 13, .ref 14, .ref 15, .int (nI p), .int (nI q), .int (nI r)] 27 (A, G, PF) 27 (pv (dt (A 13) (A 14) (A 15) p q r) (A, G, PF)) := by
  refine sem_of_go (by decide) rfl (by decide) (by decide) rfl (Nat.le_of_ble_eq_true rfl) ?_
  show Go l ro0 mX3_determinant 27 (A, G, PF) 0 [.ref 13, .ref 14, .ref 15, .int (nI p), .int (nI q), .int (nI r)] [] 27 (pv (dt (A 13) (A 14) (A 15) p q r) (A, G, PF))
  refine go_blk (pc2 := 1) (L2 := [.ref 13, .ref 14, .ref 15, .int (nI p), .int (nI q), .int (nI r)]) (st2 := [.int (nI p)]) (M2 := (A, G, PF)) (hs2 := []) (C := True) [(.iload_n 3, 0, 0)] [] (by decide +kernel) rfl trivial ?_
  refine go_call (Y2 := mX3_isPlane) (n2 := 27) (st := []) [] [.int (nI p)] ck_3_74 cwX3_isPlane rfl (by decide +kernel) rfl (fun _ => rfl) (fun h => absurd rfl h) (Nat.le_of_ble_eq_true rfl) (Or.inl rfl) (fun _ _ _ h => h) (s_X3_isPlane l A G (nI p)) (fun v M2 hp1 => ?_)
  obtain ⟨rfl, rfl⟩ := hp1
  rw [bi_t (pl_in (by omega))]
  show Go l ro0 mX3_determinant 27 (A, G, PF) 4 [.ref 13, .ref 14, .ref 15, .int (nI p), .int (nI q), .int (nI r)] [.int 1] 27 _
  refine go_ifz (cnd := .eq) (off := 19) 23 (by decide +kernel) (by decide) (fun (h : (1 : Int32) = 0) => absurd h (by decide)) (fun _ => ?_)
  refine go_blk (pc2 := 9) (L2 := [.ref 13, .ref 14, .ref 15, .int (nI p), .int (nI q), .int (nI r)]) (st2 := [.int (nI q)]) (M2 := (A, G, PF)) (hs2 := []) (C := True) [(.iload 4, 0, 0)] [] (by decide +kernel) rfl trivial ?_
  refine go_call (Y2 := mX3_isPlane) (n2 := 27) (st := []) [] [.int (nI q)] ck_3_74 cwX3_isPlane rfl (by decide +kernel) rfl (fun _ => rfl) (fun h => absurd rfl h) (Nat.le_of_ble_eq_true rfl) (Or.inl rfl) (fun _ _ _ h => h) (s_X3_isPlane l A G (nI q)) (fun v M2 hp2 => ?_)
  obtain ⟨rfl, rfl⟩ := hp2
  rw [bi_t (pl_in (by omega))]
  show Go l ro0 mX3_determinant 27 (A, G, PF) 12 [.ref 13, .ref 14, .ref 15, .int (nI p), .int (nI q), .int (nI r)] [.int 1] 27 _
  refine go_ifz (cnd := .eq) (off := 11) 23 (by decide +kernel) (by decide) (fun (h : (1 : Int32) = 0) => absurd h (by decide)) (fun _ => ?_)
  refine go_blk (pc2 := 17) (L2 := [.ref 13, .ref 14, .ref 15, .int (nI p), .int (nI q), .int (nI r)]) (st2 := [.int (nI r)]) (M2 := (A, G, PF)) (hs2 := []) (C := True) [(.iload 5, 0, 0)] [] (by decide +kernel) rfl trivial ?_
  refine go_call (Y2 := mX3_isPlane) (n2 := 27) (st := []) [] [.int (nI r)] ck_3_74 cwX3_isPlane rfl (by decide +kernel) rfl (fun _ => rfl) (fun h => absurd rfl h) (Nat.le_of_ble_eq_true rfl) (Or.inl rfl) (fun _ _ _ h => h) (s_X3_isPlane l A G (nI r)) (fun v M2 hp3 => ?_)
  obtain ⟨rfl, rfl⟩ := hp3
  rw [bi_t (pl_in (by omega))]
  show Go l ro0 mX3_determinant 27 (A, G, PF) 20 [.ref 13, .ref 14, .ref 15, .int (nI p), .int (nI q), .int (nI r)] [.int 1] 27 _
  refine go_ifz (cnd := .ne) (off := 5) 25 (by decide +kernel) (by decide) (fun _ => ?_) (fun (h : (1 : Int32) = 0) => absurd h (by decide))
  refine go_blk (pc2 := 96) (L2 := [.ref 13, .ref 14, .ref 15, .int (nI p), .int (nI q), .int (nI r)]) (st2 := [.int ((((A 13 p) * (((A 14 q) * (A 15 r)) - ((A 14 r) * (A 15 q)))) - ((A 14 p) * (((A 13 q) * (A 15 r)) - ((A 13 r) * (A 15 q))))) + ((A 15 p) * (((A 13 q) * (A 14 r)) - ((A 13 r) * (A 14 q)))))]) (M2 := (A, G, PF)) (hs2 := []) (C := ((nI p) = nI p ∧ p < 14) ∧ ((nI q) = nI q ∧ q < 14) ∧ ((nI r) = nI r ∧ r < 14) ∧ ((nI r) = nI r ∧ r < 14) ∧ ((nI q) = nI q ∧ q < 14) ∧ ((nI p) = nI p ∧ p < 14) ∧ ((nI q) = nI q ∧ q < 14) ∧ ((nI r) = nI r ∧ r < 14) ∧ ((nI r) = nI r ∧ r < 14) ∧ ((nI q) = nI q ∧ q < 14) ∧ ((nI p) = nI p ∧ p < 14) ∧ ((nI q) = nI q ∧ q < 14) ∧ ((nI r) = nI r ∧ r < 14) ∧ ((nI r) = nI r ∧ r < 14) ∧ ((nI q) = nI q ∧ q < 14) ∧ True) [(.aload_n 0, 0, 0), (.iload_n 3, 0, 0), (.iaload, 0, 0), (.aload_n 1, 0, 0), (.iload 4, 0, 0), (.iaload, 0, 0), (.aload_n 2, 0, 0), (.iload 5, 0, 0), (.iaload, 0, 0), (.imul, 0, 0), (.aload_n 1, 0, 0), (.iload 5, 0, 0), (.iaload, 0, 0), (.aload_n 2, 0, 0), (.iload 4, 0, 0), (.iaload, 0, 0), (.imul, 0, 0), (.isub, 0, 0), (.imul, 0, 0), (.aload_n 1, 0, 0), (.iload_n 3, 0, 0), (.iaload, 0, 0), (.aload_n 0, 0, 0), (.iload 4, 0, 0), (.iaload, 0, 0), (.aload_n 2, 0, 0), (.iload 5, 0, 0), (.iaload, 0, 0), (.imul, 0, 0), (.aload_n 0, 0, 0), (.iload 5, 0, 0), (.iaload, 0, 0), (.aload_n 2, 0, 0), (.iload 4, 0, 0), (.iaload, 0, 0), (.imul, 0, 0), (.isub, 0, 0), (.imul, 0, 0), (.isub, 0, 0), (.aload_n 2, 0, 0), (.iload_n 3, 0, 0), (.iaload, 0, 0), (.aload_n 0, 0, 0), (.iload 4, 0, 0), (.iaload, 0, 0), (.aload_n 1, 0, 0), (.iload 5, 0, 0), (.iaload, 0, 0), (.imul, 0, 0), (.aload_n 0, 0, 0), (.iload 5, 0, 0), (.iaload, 0, 0), (.aload_n 1, 0, 0), (.iload 4, 0, 0), (.iaload, 0, 0), (.imul, 0, 0), (.isub, 0, 0), (.imul, 0, 0), (.iadd, 0, 0)] [p, q, r, r, q, p, q, r, r, q, p, q, r, r, q] (by decide +kernel) rfl ⟨⟨rfl, by omega⟩, ⟨rfl, by omega⟩, ⟨rfl, by omega⟩, ⟨rfl, by omega⟩, ⟨rfl, by omega⟩, ⟨rfl, by omega⟩, ⟨rfl, by omega⟩, ⟨rfl, by omega⟩, ⟨rfl, by omega⟩, ⟨rfl, by omega⟩, ⟨rfl, by omega⟩, ⟨rfl, by omega⟩, ⟨rfl, by omega⟩, ⟨rfl, by omega⟩, ⟨rfl, by omega⟩, trivial⟩ ?_
  exact go_reti (by decide +kernel) rfl (⟨rfl, rfl⟩)
set_option maxRecDepth 100000 in
set_option maxHeartbeats 4000000 in
theorem s_X3_determinant_16_14_15 (l : Launch) (A : Nat → Nat → Int32) (G : Nat → Nat → Int64) (p q r : Nat) (hp : p < 14) (hq : q < 14) (hr : r < 14) : Sem l mX3_determinant [.ref 16, .ref 14, .ref 15, .int (nI p), .int (nI q), .int (nI r)] 27 (A, G, PF) 27 (pv (dt (A 16) (A 14) (A 15) p q r) (A, G, PF)) := by
  refine sem_of_go (by decide) rfl (by decide) (by decide) rfl (Nat.le_of_ble_eq_true rfl) ?_
  show Go l ro0 mX3_determinant 27 (A, G, PF) 0 [.ref 16, .ref 14, .ref 15, .int (nI p), .int (nI q), .int (nI r)] [] 27 (pv (dt (A 16) (A 14) (A 15) p q r) (A, G, PF))
  refine go_blk (pc2 := 1) (L2 := [.ref 16, .ref 14, .ref 15, .int (nI p), .int (nI q), .int (nI r)]) (st2 := [.int (nI p)]) (M2 := (A, G, PF)) (hs2 := []) (C := True) [(.iload_n 3, 0, 0)] [] (by decide +kernel) rfl trivial ?_
  refine go_call (Y2 := mX3_isPlane) (n2 := 27) (st := []) [] [.int (nI p)] ck_3_74 cwX3_isPlane rfl (by decide +kernel) rfl (fun _ => rfl) (fun h => absurd rfl h) (Nat.le_of_ble_eq_true rfl) (Or.inl rfl) (fun _ _ _ h => h) (s_X3_isPlane l A G (nI p)) (fun v M2 hp1 => ?_)
  obtain ⟨rfl, rfl⟩ := hp1
  rw [bi_t (pl_in (by omega))]
  show Go l ro0 mX3_determinant 27 (A, G, PF) 4 [.ref 16, .ref 14, .ref 15, .int (nI p), .int (nI q), .int (nI r)] [.int 1] 27 _
  refine go_ifz (cnd := .eq) (off := 19) 23 (by decide +kernel) (by decide) (fun (h : (1 : Int32) = 0) => absurd h (by decide)) (fun _ => ?_)
  refine go_blk (pc2 := 9) (L2 := [.ref 16, .ref 14, .ref 15, .int (nI p), .int (nI q), .int (nI r)]) (st2 := [.int (nI q)]) (M2 := (A, G, PF)) (hs2 := []) (C := True) [(.iload 4, 0, 0)] [] (by decide +kernel) rfl trivial ?_
  refine go_call (Y2 := mX3_isPlane) (n2 := 27) (st := []) [] [.int (nI q)] ck_3_74 cwX3_isPlane rfl (by decide +kernel) rfl (fun _ => rfl) (fun h => absurd rfl h) (Nat.le_of_ble_eq_true rfl) (Or.inl rfl) (fun _ _ _ h => h) (s_X3_isPlane l A G (nI q)) (fun v M2 hp2 => ?_)
  obtain ⟨rfl, rfl⟩ := hp2
  rw [bi_t (pl_in (by omega))]
  show Go l ro0 mX3_determinant 27 (A, G, PF) 12 [.ref 16, .ref 14, .ref 15, .int (nI p), .int (nI q), .int (nI r)] [.int 1] 27 _
  refine go_ifz (cnd := .eq) (off := 11) 23 (by decide +kernel) (by decide) (fun (h : (1 : Int32) = 0) => absurd h (by decide)) (fun _ => ?_)
  refine go_blk (pc2 := 17) (L2 := [.ref 16, .ref 14, .ref 15, .int (nI p), .int (nI q), .int (nI r)]) (st2 := [.int (nI r)]) (M2 := (A, G, PF)) (hs2 := []) (C := True) [(.iload 5, 0, 0)] [] (by decide +kernel) rfl trivial ?_
  refine go_call (Y2 := mX3_isPlane) (n2 := 27) (st := []) [] [.int (nI r)] ck_3_74 cwX3_isPlane rfl (by decide +kernel) rfl (fun _ => rfl) (fun h => absurd rfl h) (Nat.le_of_ble_eq_true rfl) (Or.inl rfl) (fun _ _ _ h => h) (s_X3_isPlane l A G (nI r)) (fun v M2 hp3 => ?_)
  obtain ⟨rfl, rfl⟩ := hp3
  rw [bi_t (pl_in (by omega))]
  show Go l ro0 mX3_determinant 27 (A, G, PF) 20 [.ref 16, .ref 14, .ref 15, .int (nI p), .int (nI q), .int (nI r)] [.int 1] 27 _
  refine go_ifz (cnd := .ne) (off := 5) 25 (by decide +kernel) (by decide) (fun _ => ?_) (fun (h : (1 : Int32) = 0) => absurd h (by decide))
  refine go_blk (pc2 := 96) (L2 := [.ref 16, .ref 14, .ref 15, .int (nI p), .int (nI q), .int (nI r)]) (st2 := [.int ((((A 16 p) * (((A 14 q) * (A 15 r)) - ((A 14 r) * (A 15 q)))) - ((A 14 p) * (((A 16 q) * (A 15 r)) - ((A 16 r) * (A 15 q))))) + ((A 15 p) * (((A 16 q) * (A 14 r)) - ((A 16 r) * (A 14 q)))))]) (M2 := (A, G, PF)) (hs2 := []) (C := ((nI p) = nI p ∧ p < 14) ∧ ((nI q) = nI q ∧ q < 14) ∧ ((nI r) = nI r ∧ r < 14) ∧ ((nI r) = nI r ∧ r < 14) ∧ ((nI q) = nI q ∧ q < 14) ∧ ((nI p) = nI p ∧ p < 14) ∧ ((nI q) = nI q ∧ q < 14) ∧ ((nI r) = nI r ∧ r < 14) ∧ ((nI r) = nI r ∧ r < 14) ∧ ((nI q) = nI q ∧ q < 14) ∧ ((nI p) = nI p ∧ p < 14) ∧ ((nI q) = nI q ∧ q < 14) ∧ ((nI r) = nI r ∧ r < 14) ∧ ((nI r) = nI r ∧ r < 14) ∧ ((nI q) = nI q ∧ q < 14) ∧ True) [(.aload_n 0, 0, 0), (.iload_n 3, 0, 0), (.iaload, 0, 0), (.aload_n 1, 0, 0), (.iload 4, 0, 0), (.iaload, 0, 0), (.aload_n 2, 0, 0), (.iload 5, 0, 0), (.iaload, 0, 0), (.imul, 0, 0), (.aload_n 1, 0, 0), (.iload 5, 0, 0), (.iaload, 0, 0), (.aload_n 2, 0, 0), (.iload 4, 0, 0), (.iaload, 0, 0), (.imul, 0, 0), (.isub, 0, 0), (.imul, 0, 0), (.aload_n 1, 0, 0), (.iload_n 3, 0, 0), (.iaload, 0, 0), (.aload_n 0, 0, 0), (.iload 4, 0, 0), (.iaload, 0, 0), (.aload_n 2, 0, 0), (.iload 5, 0, 0), (.iaload, 0, 0), (.imul, 0, 0), (.aload_n 0, 0, 0), (.iload 5, 0, 0), (.iaload, 0, 0), (.aload_n 2, 0, 0), (.iload 4, 0, 0), (.iaload, 0, 0), (.imul, 0, 0), (.isub, 0, 0), (.imul, 0, 0), (.isub, 0, 0), (.aload_n 2, 0, 0), (.iload_n 3, 0, 0), (.iaload, 0, 0), (.aload_n 0, 0, 0), (.iload 4, 0, 0), (.iaload, 0, 0), (.aload_n 1, 0, 0), (.iload 5, 0, 0), (.iaload, 0, 0), (.imul, 0, 0), (.aload_n 0, 0, 0), (.iload 5, 0, 0), (.iaload, 0, 0), (.aload_n 1, 0, 0), (.iload 4, 0, 0), (.iaload, 0, 0), (.imul, 0, 0), (.isub, 0, 0), (.imul, 0, 0), (.iadd, 0, 0)] [p, q, r, r, q, p, q, r, r, q, p, q, r, r, q] (by decide +kernel) rfl ⟨⟨rfl, by omega⟩, ⟨rfl, by omega⟩, ⟨rfl, by omega⟩, ⟨rfl, by omega⟩, ⟨rfl, by omega⟩, ⟨rfl, by omega⟩, ⟨rfl, by omega⟩, ⟨rfl, by omega⟩, ⟨rfl, by omega⟩, ⟨rfl, by omega⟩, ⟨rfl, by omega⟩, ⟨rfl, by omega⟩, ⟨rfl, by omega⟩, ⟨rfl, by omega⟩, ⟨rfl, by omega⟩, trivial⟩ ?_
  exact go_reti (by decide +kernel) rfl (⟨rfl, rfl⟩)
set_option maxRecDepth 100000 in
set_option maxHeartbeats 4000000 in
theorem s_X3_determinant_13_16_15 (l : Launch) (A : Nat → Nat → Int32) (G : Nat → Nat → Int64) (p q r : Nat) (hp : p < 14) (hq : q < 14) (hr : r < 14) : Sem l mX3_determinant [.ref 13, .ref 16, .ref 15, .int (nI p), .int (nI q), .int (nI r)] 27 (A, G, PF) 27 (pv (dt (A 13) (A 16) (A 15) p q r) (A, G, PF)) := by
  refine sem_of_go (by decide) rfl (by decide) (by decide) rfl (Nat.le_of_ble_eq_true rfl) ?_
  show Go l ro0 mX3_determinant 27 (A, G, PF) 0 [.ref 13, .ref 16, .ref 15, .int (nI p), .int (nI q), .int (nI r)] [] 27 (pv (dt (A 13) (A 16) (A 15) p q r) (A, G, PF))
  refine go_blk (pc2 := 1) (L2 := [.ref 13, .ref 16, .ref 15, .int (nI p), .int (nI q), .int (nI r)]) (st2 := [.int (nI p)]) (M2 := (A, G, PF)) (hs2 := []) (C := True) [(.iload_n 3, 0, 0)] [] (by decide +kernel) rfl trivial ?_
  refine go_call (Y2 := mX3_isPlane) (n2 := 27) (st := []) [] [.int (nI p)] ck_3_74 cwX3_isPlane rfl (by decide +kernel) rfl (fun _ => rfl) (fun h => absurd rfl h) (Nat.le_of_ble_eq_true rfl) (Or.inl rfl) (fun _ _ _ h => h) (s_X3_isPlane l A G (nI p)) (fun v M2 hp1 => ?_)
  obtain ⟨rfl, rfl⟩ := hp1
  rw [bi_t (pl_in (by omega))]
  show Go l ro0 mX3_determinant 27 (A, G, PF) 4 [.ref 13, .ref 16, .ref 15, .int (nI p), .int (nI q), .int (nI r)] [.int 1] 27 _
  refine go_ifz (cnd := .eq) (off := 19) 23 (by decide +kernel) (by decide) (fun (h : (1 : Int32) = 0) => absurd h (by decide)) (fun _ => ?_)
  refine go_blk (pc2 := 9) (L2 := [.ref 13, .ref 16, .ref 15, .int (nI p), .int (nI q), .int (nI r)]) (st2 := [.int (nI q)]) (M2 := (A, G, PF)) (hs2 := []) (C := True) [(.iload 4, 0, 0)] [] (by decide +kernel) rfl trivial ?_
  refine go_call (Y2 := mX3_isPlane) (n2 := 27) (st := []) [] [.int (nI q)] ck_3_74 cwX3_isPlane rfl (by decide +kernel) rfl (fun _ => rfl) (fun h => absurd rfl h) (Nat.le_of_ble_eq_true rfl) (Or.inl rfl) (fun _ _ _ h => h) (s_X3_isPlane l A G (nI q)) (fun v M2 hp2 => ?_)
  obtain ⟨rfl, rfl⟩ := hp2
  rw [bi_t (pl_in (by omega))]
  show Go l ro0 mX3_determinant 27 (A, G, PF) 12 [.ref 13, .ref 16, .ref 15, .int (nI p), .int (nI q), .int (nI r)] [.int 1] 27 _
  refine go_ifz (cnd := .eq) (off := 11) 23 (by decide +kernel) (by decide) (fun (h : (1 : Int32) = 0) => absurd h (by decide)) (fun _ => ?_)
  refine go_blk (pc2 := 17) (L2 := [.ref 13, .ref 16, .ref 15, .int (nI p), .int (nI q), .int (nI r)]) (st2 := [.int (nI r)]) (M2 := (A, G, PF)) (hs2 := []) (C := True) [(.iload 5, 0, 0)] [] (by decide +kernel) rfl trivial ?_
  refine go_call (Y2 := mX3_isPlane) (n2 := 27) (st := []) [] [.int (nI r)] ck_3_74 cwX3_isPlane rfl (by decide +kernel) rfl (fun _ => rfl) (fun h => absurd rfl h) (Nat.le_of_ble_eq_true rfl) (Or.inl rfl) (fun _ _ _ h => h) (s_X3_isPlane l A G (nI r)) (fun v M2 hp3 => ?_)
  obtain ⟨rfl, rfl⟩ := hp3
  rw [bi_t (pl_in (by omega))]
  show Go l ro0 mX3_determinant 27 (A, G, PF) 20 [.ref 13, .ref 16, .ref 15, .int (nI p), .int (nI q), .int (nI r)] [.int 1] 27 _
  refine go_ifz (cnd := .ne) (off := 5) 25 (by decide +kernel) (by decide) (fun _ => ?_) (fun (h : (1 : Int32) = 0) => absurd h (by decide))
  refine go_blk (pc2 := 96) (L2 := [.ref 13, .ref 16, .ref 15, .int (nI p), .int (nI q), .int (nI r)]) (st2 := [.int ((((A 13 p) * (((A 16 q) * (A 15 r)) - ((A 16 r) * (A 15 q)))) - ((A 16 p) * (((A 13 q) * (A 15 r)) - ((A 13 r) * (A 15 q))))) + ((A 15 p) * (((A 13 q) * (A 16 r)) - ((A 13 r) * (A 16 q)))))]) (M2 := (A, G, PF)) (hs2 := []) (C := ((nI p) = nI p ∧ p < 14) ∧ ((nI q) = nI q ∧ q < 14) ∧ ((nI r) = nI r ∧ r < 14) ∧ ((nI r) = nI r ∧ r < 14) ∧ ((nI q) = nI q ∧ q < 14) ∧ ((nI p) = nI p ∧ p < 14) ∧ ((nI q) = nI q ∧ q < 14) ∧ ((nI r) = nI r ∧ r < 14) ∧ ((nI r) = nI r ∧ r < 14) ∧ ((nI q) = nI q ∧ q < 14) ∧ ((nI p) = nI p ∧ p < 14) ∧ ((nI q) = nI q ∧ q < 14) ∧ ((nI r) = nI r ∧ r < 14) ∧ ((nI r) = nI r ∧ r < 14) ∧ ((nI q) = nI q ∧ q < 14) ∧ True) [(.aload_n 0, 0, 0), (.iload_n 3, 0, 0), (.iaload, 0, 0), (.aload_n 1, 0, 0), (.iload 4, 0, 0), (.iaload, 0, 0), (.aload_n 2, 0, 0), (.iload 5, 0, 0), (.iaload, 0, 0), (.imul, 0, 0), (.aload_n 1, 0, 0), (.iload 5, 0, 0), (.iaload, 0, 0), (.aload_n 2, 0, 0), (.iload 4, 0, 0), (.iaload, 0, 0), (.imul, 0, 0), (.isub, 0, 0), (.imul, 0, 0), (.aload_n 1, 0, 0), (.iload_n 3, 0, 0), (.iaload, 0, 0), (.aload_n 0, 0, 0), (.iload 4, 0, 0), (.iaload, 0, 0), (.aload_n 2, 0, 0), (.iload 5, 0, 0), (.iaload, 0, 0), (.imul, 0, 0), (.aload_n 0, 0, 0), (.iload 5, 0, 0), (.iaload, 0, 0), (.aload_n 2, 0, 0), (.iload 4, 0, 0), (.iaload, 0, 0), (.imul, 0, 0), (.isub, 0, 0), (.imul, 0, 0), (.isub, 0, 0), (.aload_n 2, 0, 0), (.iload_n 3, 0, 0), (.iaload, 0, 0), (.aload_n 0, 0, 0), (.iload 4, 0, 0), (.iaload, 0, 0), (.aload_n 1, 0, 0), (.iload 5, 0, 0), (.iaload, 0, 0), (.imul, 0, 0), (.aload_n 0, 0, 0), (.iload 5, 0, 0), (.iaload, 0, 0), (.aload_n 1, 0, 0), (.iload 4, 0, 0), (.iaload, 0, 0), (.imul, 0, 0), (.isub, 0, 0), (.imul, 0, 0), (.iadd, 0, 0)] [p, q, r, r, q, p, q, r, r, q, p, q, r, r, q] (by decide +kernel) rfl ⟨⟨rfl, by omega⟩, ⟨rfl, by omega⟩, ⟨rfl, by omega⟩, ⟨rfl, by omega⟩, ⟨rfl, by omega⟩, ⟨rfl, by omega⟩, ⟨rfl, by omega⟩, ⟨rfl, by omega⟩, ⟨rfl, by omega⟩, ⟨rfl, by omega⟩, ⟨rfl, by omega⟩, ⟨rfl, by omega⟩, ⟨rfl, by omega⟩, ⟨rfl, by omega⟩, ⟨rfl, by omega⟩, trivial⟩ ?_
  exact go_reti (by decide +kernel) rfl (⟨rfl, rfl⟩)
set_option maxRecDepth 100000 in
set_option maxHeartbeats 4000000 in
theorem s_X3_determinant_13_14_16 (l : Launch) (A : Nat → Nat → Int32) (G : Nat → Nat → Int64) (p q r : Nat) (hp : p < 14) (hq : q < 14) (hr : r < 14) : Sem l mX3_determinant [.ref 13, .ref 14, .ref 16, .int (nI p), .int (nI q), .int (nI r)] 27 (A, G, PF) 27 (pv (dt (A 13) (A 14) (A 16) p q r) (A, G, PF)) := by
  refine sem_of_go (by decide) rfl (by decide) (by decide) rfl (Nat.le_of_ble_eq_true rfl) ?_
  show Go l ro0 mX3_determinant 27 (A, G, PF) 0 [.ref 13, .ref 14, .ref 16, .int (nI p), .int (nI q), .int (nI r)] [] 27 (pv (dt (A 13) (A 14) (A 16) p q r) (A, G, PF))
  refine go_blk (pc2 := 1) (L2 := [.ref 13, .ref 14, .ref 16, .int (nI p), .int (nI q), .int (nI r)]) (st2 := [.int (nI p)]) (M2 := (A, G, PF)) (hs2 := []) (C := True) [(.iload_n 3, 0, 0)] [] (by decide +kernel) rfl trivial ?_
  refine go_call (Y2 := mX3_isPlane) (n2 := 27) (st := []) [] [.int (nI p)] ck_3_74 cwX3_isPlane rfl (by decide +kernel) rfl (fun _ => rfl) (fun h => absurd rfl h) (Nat.le_of_ble_eq_true rfl) (Or.inl rfl) (fun _ _ _ h => h) (s_X3_isPlane l A G (nI p)) (fun v M2 hp1 => ?_)
  obtain ⟨rfl, rfl⟩ := hp1
  rw [bi_t (pl_in (by omega))]
  show Go l ro0 mX3_determinant 27 (A, G, PF) 4 [.ref 13, .ref 14, .ref 16, .int (nI p), .int (nI q), .int (nI r)] [.int 1] 27 _
  refine go_ifz (cnd := .eq) (off := 19) 23 (by decide +kernel) (by decide) (fun (h : (1 : Int32) = 0) => absurd h (by decide)) (fun _ => ?_)
  refine go_blk (pc2 := 9) (L2 := [.ref 13, .ref 14, .ref 16, .int (nI p), .int (nI q), .int (nI r)]) (st2 := [.int (nI q)]) (M2 := (A, G, PF)) (hs2 := []) (C := True) [(.iload 4, 0, 0)] [] (by decide +kernel) rfl trivial ?_
  refine go_call (Y2 := mX3_isPlane) (n2 := 27) (st := []) [] [.int (nI q)] ck_3_74 cwX3_isPlane rfl (by decide +kernel) rfl (fun _ => rfl) (fun h => absurd rfl h) (Nat.le_of_ble_eq_true rfl) (Or.inl rfl) (fun _ _ _ h => h) (s_X3_isPlane l A G (nI q)) (fun v M2 hp2 => ?_)
  obtain ⟨rfl, rfl⟩ := hp2
  rw [bi_t (pl_in (by omega))]
  show Go l ro0 mX3_determinant 27 (A, G, PF) 12 [.ref 13, .ref 14, .ref 16, .int (nI p), .int (nI q), .int (nI r)] [.int 1] 27 _
  refine go_ifz (cnd := .eq) (off := 11) 23 (by decide +kernel) (by decide) (fun (h : (1 : Int32) = 0) => absurd h (by decide)) (fun _ => ?_)
  refine go_blk (pc2 := 17) (L2 := [.ref 13, .ref 14, .ref 16, .int (nI p), .int (nI q), .int (nI r)]) (st2 := [.int (nI r)]) (M2 := (A, G, PF)) (hs2 := []) (C := True) [(.iload 5, 0, 0)] [] (by decide +kernel) rfl trivial ?_
  refine go_call (Y2 := mX3_isPlane) (n2 := 27) (st := []) [] [.int (nI r)] ck_3_74 cwX3_isPlane rfl (by decide +kernel) rfl (fun _ => rfl) (fun h => absurd rfl h) (Nat.le_of_ble_eq_true rfl) (Or.inl rfl) (fun _ _ _ h => h) (s_X3_isPlane l A G (nI r)) (fun v M2 hp3 => ?_)
  obtain ⟨rfl, rfl⟩ := hp3
  rw [bi_t (pl_in (by omega))]
  show Go l ro0 mX3_determinant 27 (A, G, PF) 20 [.ref 13, .ref 14, .ref 16, .int (nI p), .int (nI q), .int (nI r)] [.int 1] 27 _
  refine go_ifz (cnd := .ne) (off := 5) 25 (by decide +kernel) (by decide) (fun _ => ?_) (fun (h : (1 : Int32) = 0) => absurd h (by decide))
  refine go_blk (pc2 := 96) (L2 := [.ref 13, .ref 14, .ref 16, .int (nI p), .int (nI q), .int (nI r)]) (st2 := [.int ((((A 13 p) * (((A 14 q) * (A 16 r)) - ((A 14 r) * (A 16 q)))) - ((A 14 p) * (((A 13 q) * (A 16 r)) - ((A 13 r) * (A 16 q))))) + ((A 16 p) * (((A 13 q) * (A 14 r)) - ((A 13 r) * (A 14 q)))))]) (M2 := (A, G, PF)) (hs2 := []) (C := ((nI p) = nI p ∧ p < 14) ∧ ((nI q) = nI q ∧ q < 14) ∧ ((nI r) = nI r ∧ r < 14) ∧ ((nI r) = nI r ∧ r < 14) ∧ ((nI q) = nI q ∧ q < 14) ∧ ((nI p) = nI p ∧ p < 14) ∧ ((nI q) = nI q ∧ q < 14) ∧ ((nI r) = nI r ∧ r < 14) ∧ ((nI r) = nI r ∧ r < 14) ∧ ((nI q) = nI q ∧ q < 14) ∧ ((nI p) = nI p ∧ p < 14) ∧ ((nI q) = nI q ∧ q < 14) ∧ ((nI r) = nI r ∧ r < 14) ∧ ((nI r) = nI r ∧ r < 14) ∧ ((nI q) = nI q ∧ q < 14) ∧ True) [(.aload_n 0, 0, 0), (.iload_n 3, 0, 0), (.iaload, 0, 0), (.aload_n 1, 0, 0), (.iload 4, 0, 0), (.iaload, 0, 0), (.aload_n 2, 0, 0), (.iload 5, 0, 0), (.iaload, 0, 0), (.imul, 0, 0), (.aload_n 1, 0, 0), (.iload 5, 0, 0), (.iaload, 0, 0), (.aload_n 2, 0, 0), (.iload 4, 0, 0), (.iaload, 0, 0), (.imul, 0, 0), (.isub, 0, 0), (.imul, 0, 0), (.aload_n 1, 0, 0), (.iload_n 3, 0, 0), (.iaload, 0, 0), (.aload_n 0, 0, 0), (.iload 4, 0, 0), (.iaload, 0, 0), (.aload_n 2, 0, 0), (.iload 5, 0, 0), (.iaload, 0, 0), (.imul, 0, 0), (.aload_n 0, 0, 0), (.iload 5, 0, 0), (.iaload, 0, 0), (.aload_n 2, 0, 0), (.iload 4, 0, 0), (.iaload, 0, 0), (.imul, 0, 0), (.isub, 0, 0), (.imul, 0, 0), (.isub, 0, 0), (.aload_n 2, 0, 0), (.iload_n 3, 0, 0), (.iaload, 0, 0), (.aload_n 0, 0, 0), (.iload 4, 0, 0), (.iaload, 0, 0), (.aload_n 1, 0, 0), (.iload 5, 0, 0), (.iaload, 0, 0), (.imul, 0, 0), (.aload_n 0, 0, 0), (.iload 5, 0, 0), (.iaload, 0, 0), (.aload_n 1, 0, 0), (.iload 4, 0, 0), (.iaload, 0, 0), (.imul, 0, 0), (.isub, 0, 0), (.imul, 0, 0), (.iadd, 0, 0)] [p, q, r, r, q, p, q, r, r, q, p, q, r, r, q] (by decide +kernel) rfl ⟨⟨rfl, by omega⟩, ⟨rfl, by omega⟩, ⟨rfl, by omega⟩, ⟨rfl, by omega⟩, ⟨rfl, by omega⟩, ⟨rfl, by omega⟩, ⟨rfl, by omega⟩, ⟨rfl, by omega⟩, ⟨rfl, by omega⟩, ⟨rfl, by omega⟩, ⟨rfl, by omega⟩, ⟨rfl, by omega⟩, ⟨rfl, by omega⟩, ⟨rfl, by omega⟩, ⟨rfl, by omega⟩, trivial⟩ ?_
  exact go_reti (by decide +kernel) rfl (⟨rfl, rfl⟩)
set_option maxRecDepth 100000 in
set_option maxHeartbeats 4000000 in
theorem lp_X3_findSides (l : Launch) (A : Nat → Nat → Int32) (G : Nat → Nat → Int64) (x y z w : Int32) : ∀ t, t ≤ 8 → ∀ (j : Value), Go l ro0 mX3_findSides 27 (A, G, PF) 6 [.ref 12, .int x, .int y, .int z, .int w, .int (fsd A x y z w t), .int (nI t), j] [] 27 (pv (fsd A x y z w 8) (A, G, PF)) := by
  refine down 8 (fun t hk ih j => ?_)
  refine go_blk (pc2 := 10) (L2 := [.ref 12, .int x, .int y, .int z, .int w, .int (fsd A x y z w t), .int (nI t), j]) (st2 := [.int 8, .int (nI t)]) (M2 := (A, G, PF)) (hs2 := []) (C := True) [(.iload 6, 0, 0), (.bipush 8, 0, 0)] [] (by decide +kernel) rfl trivial ?_
  refine go_cmp (cnd := .ge) (off := 124) 134 (by decide +kernel) (by decide) (fun (c1 : 8 ≤ (nI t)) => ?_) (fun (c1 : ¬ 8 ≤ (nI t)) => ?_)
  · skip
    replace c1 : 8 ≤ t := (nx_le (a := 8) (b := t) rfl rfl (by omega) (by omega)).mp c1
    refine go_blk (pc2 := 136) (L2 := [.ref 12, .int x, .int y, .int z, .int w, .int (fsd A x y z w t), .int (nI t), j]) (st2 := [.int (fsd A x y z w t)]) (M2 := (A, G, PF)) (hs2 := []) (C := True) [(.iload 5, 0, 0)] [] (by decide +kernel) rfl trivial ?_
    exact go_reti (by decide +kernel) rfl (pve (by rw [show t = 8 by omega]))
  · skip
    replace c1 : ¬ 8 ≤ t := fun zz => c1 ((nx_le (a := 8) (b := t) rfl rfl (by omega) (by omega)).mpr zz)
    refine go_blk (pc2 := 57) (L2 := [.ref 12, .int x, .int y, .int z, .int w, .int (fsd A x y z w t), .int (nI t), .int (((((A 13 t) * x) + ((A 14 t) * y)) + ((A 15 t) * z)) - ((A 16 t) * w))]) (st2 := [.int (((((A 13 t) * x) + ((A 14 t) * y)) + ((A 15 t) * z)) - ((A 16 t) * w))]) (M2 := (A, G, PF)) (hs2 := []) (C := ((nI t) = nI t ∧ t < 14) ∧ ((nI t) = nI t ∧ t < 14) ∧ ((nI t) = nI t ∧ t < 14) ∧ ((nI t) = nI t ∧ t < 14) ∧ True) [(.aload_n 0, 0, 0), (.getfield 11, 3, 0), (.iload 6, 0, 0), (.iaload, 0, 0), (.iload_n 1, 0, 0), (.imul, 0, 0), (.aload_n 0, 0, 0), (.getfield 15, 3, 1), (.iload 6, 0, 0), (.iaload, 0, 0), (.iload_n 2, 0, 0), (.imul, 0, 0), (.iadd, 0, 0), (.aload_n 0, 0, 0), (.getfield 18, 3, 2), (.iload 6, 0, 0), (.iaload, 0, 0), (.iload_n 3, 0, 0), (.imul, 0, 0), (.iadd, 0, 0), (.aload_n 0, 0, 0), (.getfield 21, 3, 3), (.iload 6, 0, 0), (.iaload, 0, 0), (.iload 4, 0, 0), (.imul, 0, 0), (.isub, 0, 0), (.istore 7, 0, 0), (.iload 7, 0, 0)] [t, t, t, t] (by decide +kernel) rfl ⟨⟨rfl, by omega⟩, ⟨rfl, by omega⟩, ⟨rfl, by omega⟩, ⟨rfl, by omega⟩, trivial⟩ ?_
    refine go_ifz (cnd := .ne) (off := 16) 73 (by decide +kernel) (by decide) (fun (c2 : ¬ (((((A 13 t) * x) + ((A 14 t) * y)) + ((A 15 t) * z)) - ((A 16 t) * w)) = 0) => ?_) (fun (c2 : (((((A 13 t) * x) + ((A 14 t) * y)) + ((A 15 t) * z)) - ((A 16 t) * w)) = 0) => ?_)
    · skip
      replace c2 : ¬ fov A x y z w t = 0 := c2
      refine go_blk (pc2 := 75) (L2 := [.ref 12, .int x, .int y, .int z, .int w, .int (fsd A x y z w t), .int (nI t), .int (((((A 13 t) * x) + ((A 14 t) * y)) + ((A 15 t) * z)) - ((A 16 t) * w))]) (st2 := [.int (((((A 13 t) * x) + ((A 14 t) * y)) + ((A 15 t) * z)) - ((A 16 t) * w))]) (M2 := (A, G, PF)) (hs2 := []) (C := True) [(.iload 7, 0, 0)] [] (by decide +kernel) rfl trivial ?_
      refine go_ifz (cnd := .ge) (off := 25) 100 (by decide +kernel) (by decide) (fun (c3 : 0 ≤ (((((A 13 t) * x) + ((A 14 t) * y)) + ((A 15 t) * z)) - ((A 16 t) * w))) => ?_) (fun (c3 : ¬ 0 ≤ (((((A 13 t) * x) + ((A 14 t) * y)) + ((A 15 t) * z)) - ((A 16 t) * w))) => ?_)
      · skip
        replace c3 : 0 ≤ fov A x y z w t := c3
        refine go_blk (pc2 := 106) (L2 := [.ref 12, .int x, .int y, .int z, .int w, .int (fsd A x y z w t), .int (nI t), .int (((((A 13 t) * x) + ((A 14 t) * y)) + ((A 15 t) * z)) - ((A 16 t) * w))]) (st2 := [.int (nI t), .int 8, .int (fsd A x y z w t)]) (M2 := (A, G, PF)) (hs2 := []) (C := True) [(.iload 5, 0, 0), (.bipush 8, 0, 0), (.iload 6, 0, 0)] [] (by decide +kernel) rfl trivial ?_
        refine go_call (Y2 := mX5_side) (n2 := 27) (st := [.int (fsd A x y z w t)]) [] [.int 8, .int (nI t)] ck_3_86 cwX5_side rfl (by decide +kernel) rfl (fun _ => rfl) (fun h => absurd rfl h) (Nat.le_of_ble_eq_true rfl) (Or.inl rfl) (fun _ _ _ h => h) (s_X5_side l A G 8 (nI t)) (fun v M2 hp4 => ?_)
        obtain ⟨rfl, rfl⟩ := hp4
        show Go l ro0 mX3_findSides 27 (A, G, PF) 109 [.ref 12, .int x, .int y, .int z, .int w, .int (fsd A x y z w t), .int (nI t), .int (((((A 13 t) * x) + ((A 14 t) * y)) + ((A 15 t) * z)) - ((A 16 t) * w))] [.int (1 <<< ((8 + (nI t)) &&& 31)), .int (fsd A x y z w t)] 27 _
        refine go_blk (pc2 := 113) (L2 := [.ref 12, .int x, .int y, .int z, .int w, .int (fsd A x y z w t), .int (nI t), .int (((((A 13 t) * x) + ((A 14 t) * y)) + ((A 15 t) * z)) - ((A 16 t) * w))]) (st2 := [.int (nI t), .int 16, .int (1 <<< ((8 + (nI t)) &&& 31)), .int (fsd A x y z w t)]) (M2 := (A, G, PF)) (hs2 := []) (C := True) [(.bipush 16, 0, 0), (.iload 6, 0, 0)] [] (by decide +kernel) rfl trivial ?_
        refine go_call (Y2 := mX5_side) (n2 := 27) (st := [.int (1 <<< ((8 + (nI t)) &&& 31)), .int (fsd A x y z w t)]) [] [.int 16, .int (nI t)] ck_3_86 cwX5_side rfl (by decide +kernel) rfl (fun _ => rfl) (fun h => absurd rfl h) (Nat.le_of_ble_eq_true rfl) (Or.inl rfl) (fun _ _ _ h => h) (s_X5_side l A G 16 (nI t)) (fun v M2 hp5 => ?_)
        obtain ⟨rfl, rfl⟩ := hp5
        show Go l ro0 mX3_findSides 27 (A, G, PF) 116 [.ref 12, .int x, .int y, .int z, .int w, .int (fsd A x y z w t), .int (nI t), .int (((((A 13 t) * x) + ((A 14 t) * y)) + ((A 15 t) * z)) - ((A 16 t) * w))] [.int (1 <<< ((16 + (nI t)) &&& 31)), .int (1 <<< ((8 + (nI t)) &&& 31)), .int (fsd A x y z w t)] 27 _
        refine go_blk (pc2 := 121) (L2 := [.ref 12, .int x, .int y, .int z, .int w, .int (fsd A x y z w t), .int (nI t), .int (((((A 13 t) * x) + ((A 14 t) * y)) + ((A 15 t) * z)) - ((A 16 t) * w))]) (st2 := [.int (nI t), .int 24, .int ((1 <<< ((8 + (nI t)) &&& 31)) ||| (1 <<< ((16 + (nI t)) &&& 31))), .int (fsd A x y z w t)]) (M2 := (A, G, PF)) (hs2 := []) (C := True) [(.ior, 0, 0), (.bipush 24, 0, 0), (.iload 6, 0, 0)] [] (by decide +kernel) rfl trivial ?_
        refine go_call (Y2 := mX5_side) (n2 := 27) (st := [.int ((1 <<< ((8 + (nI t)) &&& 31)) ||| (1 <<< ((16 + (nI t)) &&& 31))), .int (fsd A x y z w t)]) [] [.int 24, .int (nI t)] ck_3_86 cwX5_side rfl (by decide +kernel) rfl (fun _ => rfl) (fun h => absurd rfl h) (Nat.le_of_ble_eq_true rfl) (Or.inl rfl) (fun _ _ _ h => h) (s_X5_side l A G 24 (nI t)) (fun v M2 hp6 => ?_)
        obtain ⟨rfl, rfl⟩ := hp6
        show Go l ro0 mX3_findSides 27 (A, G, PF) 124 [.ref 12, .int x, .int y, .int z, .int w, .int (fsd A x y z w t), .int (nI t), .int (((((A 13 t) * x) + ((A 14 t) * y)) + ((A 15 t) * z)) - ((A 16 t) * w))] [.int (1 <<< ((24 + (nI t)) &&& 31)), .int ((1 <<< ((8 + (nI t)) &&& 31)) ||| (1 <<< ((16 + (nI t)) &&& 31))), .int (fsd A x y z w t)] 27 _
        refine go_blk (pc2 := 131) (L2 := [.ref 12, .int x, .int y, .int z, .int w, .int ((fsd A x y z w t) ||| (((1 <<< ((8 + (nI t)) &&& 31)) ||| (1 <<< ((16 + (nI t)) &&& 31))) ||| (1 <<< ((24 + (nI t)) &&& 31)))), .int ((nI t) + 1), .int (((((A 13 t) * x) + ((A 14 t) * y)) + ((A 15 t) * z)) - ((A 16 t) * w))]) (st2 := []) (M2 := (A, G, PF)) (hs2 := []) (C := True) [(.ior, 0, 0), (.ior, 0, 0), (.istore 5, 0, 0), (.iinc 6 1, 0, 0)] [] (by decide +kernel) rfl trivial ?_
        refine go_goto (off := -125) 6 (by decide +kernel) (by decide) ?_
        exact go_as (ih (by omega) (.int (((((A 13 t) * x) + ((A 14 t) * y)) + ((A 15 t) * z)) - ((A 16 t) * w)))) rfl (by simp only [fsd, nI_1]; first | rw [if_pos (by assumption)] | (rw [if_neg (by assumption)]; first | rw [if_pos (Int32.not_le.mp (by assumption))] | rw [if_neg (Int32.not_lt.mpr (by assumption))])) rfl
      · skip
        replace c3 : ¬ 0 ≤ fov A x y z w t := c3
        refine go_blk (pc2 := 83) (L2 := [.ref 12, .int x, .int y, .int z, .int w, .int (fsd A x y z w t), .int (nI t), .int (((((A 13 t) * x) + ((A 14 t) * y)) + ((A 15 t) * z)) - ((A 16 t) * w))]) (st2 := [.int (nI t), .int 0, .int (fsd A x y z w t)]) (M2 := (A, G, PF)) (hs2 := []) (C := True) [(.iload 5, 0, 0), (.iconst 0, 0, 0), (.iload 6, 0, 0)] [] (by decide +kernel) rfl trivial ?_
        refine go_call (Y2 := mX5_side) (n2 := 27) (st := [.int (fsd A x y z w t)]) [] [.int 0, .int (nI t)] ck_3_86 cwX5_side rfl (by decide +kernel) rfl (fun _ => rfl) (fun h => absurd rfl h) (Nat.le_of_ble_eq_true rfl) (Or.inl rfl) (fun _ _ _ h => h) (s_X5_side l A G 0 (nI t)) (fun v M2 hp7 => ?_)
        obtain ⟨rfl, rfl⟩ := hp7
        show Go l ro0 mX3_findSides 27 (A, G, PF) 86 [.ref 12, .int x, .int y, .int z, .int w, .int (fsd A x y z w t), .int (nI t), .int (((((A 13 t) * x) + ((A 14 t) * y)) + ((A 15 t) * z)) - ((A 16 t) * w))] [.int (1 <<< ((0 + (nI t)) &&& 31)), .int (fsd A x y z w t)] 27 _
        refine go_blk (pc2 := 90) (L2 := [.ref 12, .int x, .int y, .int z, .int w, .int (fsd A x y z w t), .int (nI t), .int (((((A 13 t) * x) + ((A 14 t) * y)) + ((A 15 t) * z)) - ((A 16 t) * w))]) (st2 := [.int (nI t), .int 24, .int (1 <<< ((0 + (nI t)) &&& 31)), .int (fsd A x y z w t)]) (M2 := (A, G, PF)) (hs2 := []) (C := True) [(.bipush 24, 0, 0), (.iload 6, 0, 0)] [] (by decide +kernel) rfl trivial ?_
        refine go_call (Y2 := mX5_side) (n2 := 27) (st := [.int (1 <<< ((0 + (nI t)) &&& 31)), .int (fsd A x y z w t)]) [] [.int 24, .int (nI t)] ck_3_86 cwX5_side rfl (by decide +kernel) rfl (fun _ => rfl) (fun h => absurd rfl h) (Nat.le_of_ble_eq_true rfl) (Or.inl rfl) (fun _ _ _ h => h) (s_X5_side l A G 24 (nI t)) (fun v M2 hp8 => ?_)
        obtain ⟨rfl, rfl⟩ := hp8
        show Go l ro0 mX3_findSides 27 (A, G, PF) 93 [.ref 12, .int x, .int y, .int z, .int w, .int (fsd A x y z w t), .int (nI t), .int (((((A 13 t) * x) + ((A 14 t) * y)) + ((A 15 t) * z)) - ((A 16 t) * w))] [.int (1 <<< ((24 + (nI t)) &&& 31)), .int (1 <<< ((0 + (nI t)) &&& 31)), .int (fsd A x y z w t)] 27 _
        refine go_blk (pc2 := 97) (L2 := [.ref 12, .int x, .int y, .int z, .int w, .int ((fsd A x y z w t) ||| ((1 <<< ((0 + (nI t)) &&& 31)) ||| (1 <<< ((24 + (nI t)) &&& 31)))), .int (nI t), .int (((((A 13 t) * x) + ((A 14 t) * y)) + ((A 15 t) * z)) - ((A 16 t) * w))]) (st2 := []) (M2 := (A, G, PF)) (hs2 := []) (C := True) [(.ior, 0, 0), (.ior, 0, 0), (.istore 5, 0, 0)] [] (by decide +kernel) rfl trivial ?_
        refine go_goto (off := 31) 128 (by decide +kernel) (by decide) ?_
        refine go_blk (pc2 := 131) (L2 := [.ref 12, .int x, .int y, .int z, .int w, .int ((fsd A x y z w t) ||| ((1 <<< ((0 + (nI t)) &&& 31)) ||| (1 <<< ((24 + (nI t)) &&& 31)))), .int ((nI t) + 1), .int (((((A 13 t) * x) + ((A 14 t) * y)) + ((A 15 t) * z)) - ((A 16 t) * w))]) (st2 := []) (M2 := (A, G, PF)) (hs2 := []) (C := True) [(.iinc 6 1, 0, 0)] [] (by decide +kernel) rfl trivial ?_
        refine go_goto (off := -125) 6 (by decide +kernel) (by decide) ?_
        exact go_as (ih (by omega) (.int (((((A 13 t) * x) + ((A 14 t) * y)) + ((A 15 t) * z)) - ((A 16 t) * w)))) rfl (by simp only [fsd, nI_1]; first | rw [if_pos (by assumption)] | (rw [if_neg (by assumption)]; first | rw [if_pos (Int32.not_le.mp (by assumption))] | rw [if_neg (Int32.not_lt.mpr (by assumption))])) rfl
    · skip
      replace c2 : fov A x y z w t = 0 := c2
      refine go_blk (pc2 := 64) (L2 := [.ref 12, .int x, .int y, .int z, .int w, .int (fsd A x y z w t), .int (nI t), .int (((((A 13 t) * x) + ((A 14 t) * y)) + ((A 15 t) * z)) - ((A 16 t) * w))]) (st2 := [.int (nI t), .int (fsd A x y z w t)]) (M2 := (A, G, PF)) (hs2 := []) (C := True) [(.iload 5, 0, 0), (.iload 6, 0, 0)] [] (by decide +kernel) rfl trivial ?_
      refine go_call (Y2 := mX5_onPlane) (n2 := 27) (st := [.int (fsd A x y z w t)]) [] [.int (nI t)] ck_3_82 cwX5_onPlane rfl (by decide +kernel) rfl (fun _ => rfl) (fun h => absurd rfl h) (Nat.le_of_ble_eq_true rfl) (Or.inl rfl) (fun _ _ _ h => h) (s_X5_onPlane l A G (nI t)) (fun v M2 hp9 => ?_)
      obtain ⟨rfl, rfl⟩ := hp9
      show Go l ro0 mX3_findSides 27 (A, G, PF) 67 [.ref 12, .int x, .int y, .int z, .int w, .int (fsd A x y z w t), .int (nI t), .int (((((A 13 t) * x) + ((A 14 t) * y)) + ((A 15 t) * z)) - ((A 16 t) * w))] [.int ((1 <<< ((0 + (nI t)) &&& 31)) ||| (1 <<< ((8 + (nI t)) &&& 31))), .int (fsd A x y z w t)] 27 _
      refine go_blk (pc2 := 70) (L2 := [.ref 12, .int x, .int y, .int z, .int w, .int ((fsd A x y z w t) ||| ((1 <<< ((0 + (nI t)) &&& 31)) ||| (1 <<< ((8 + (nI t)) &&& 31)))), .int (nI t), .int (((((A 13 t) * x) + ((A 14 t) * y)) + ((A 15 t) * z)) - ((A 16 t) * w))]) (st2 := []) (M2 := (A, G, PF)) (hs2 := []) (C := True) [(.ior, 0, 0), (.istore 5, 0, 0)] [] (by decide +kernel) rfl trivial ?_
      refine go_goto (off := 58) 128 (by decide +kernel) (by decide) ?_
      refine go_blk (pc2 := 131) (L2 := [.ref 12, .int x, .int y, .int z, .int w, .int ((fsd A x y z w t) ||| ((1 <<< ((0 + (nI t)) &&& 31)) ||| (1 <<< ((8 + (nI t)) &&& 31)))), .int ((nI t) + 1), .int (((((A 13 t) * x) + ((A 14 t) * y)) + ((A 15 t) * z)) - ((A 16 t) * w))]) (st2 := []) (M2 := (A, G, PF)) (hs2 := []) (C := True) [(.iinc 6 1, 0, 0)] [] (by decide +kernel) rfl trivial ?_
      refine go_goto (off := -125) 6 (by decide +kernel) (by decide) ?_
      exact go_as (ih (by omega) (.int (((((A 13 t) * x) + ((A 14 t) * y)) + ((A 15 t) * z)) - ((A 16 t) * w)))) rfl (by simp only [fsd, nI_1]; first | rw [if_pos (by assumption)] | (rw [if_neg (by assumption)]; first | rw [if_pos (Int32.not_le.mp (by assumption))] | rw [if_neg (Int32.not_lt.mpr (by assumption))])) rfl
set_option maxRecDepth 100000 in
set_option maxHeartbeats 4000000 in
theorem s_X3_findSides (l : Launch) (A : Nat → Nat → Int32) (G : Nat → Nat → Int64) (x y z w : Int32) : Sem l mX3_findSides [.ref 12, .int x, .int y, .int z, .int w] 27 (A, G, PF) 27 (pv (fsd A x y z w 8) (A, G, PF)) := by
  refine sem_of_go (by decide) rfl (by decide) (by decide) rfl (Nat.le_of_ble_eq_true rfl) ?_
  show Go l ro0 mX3_findSides 27 (A, G, PF) 0 [.ref 12, .int x, .int y, .int z, .int w, .null, .null, .null] [] 27 (pv (fsd A x y z w 8) (A, G, PF))
  refine go_blk (pc2 := 6) (L2 := [.ref 12, .int x, .int y, .int z, .int w, .int 0, .int 0, .null]) (st2 := []) (M2 := (A, G, PF)) (hs2 := []) (C := True) [(.iconst 0, 0, 0), (.istore 5, 0, 0), (.iconst 0, 0, 0), (.istore 6, 0, 0)] [] (by decide +kernel) rfl trivial ?_
  exact lp_X3_findSides l A G x y z w 0 (by omega) _
set_option maxRecDepth 100000 in
set_option maxHeartbeats 4000000 in
theorem s_X3_keep (l : Launch) (A : Nat → Nat → Int32) (G : Nat → Nat → Int64) (x y z w : Int32) (cnt : Nat) (hc : A 12 9 = nI cnt) (hlt : cnt < 364) : Sem l mX3_keep [.ref 12, .int x, .int y, .int z, .int w] 27 (A, G, PF) 27 (pm (kp A cnt x y z w, G, PF)) := by
  refine sem_of_go (by decide) rfl (by decide) (by decide) rfl (Nat.le_of_ble_eq_true rfl) ?_
  show Go l ro0 mX3_keep 27 (A, G, PF) 0 [.ref 12, .int x, .int y, .int z, .int w] [] 27 (pm (kp A cnt x y z w, G, PF))
  refine go_blk (pc2 := 4) (L2 := [.ref 12, .int x, .int y, .int z, .int w]) (st2 := [.int (A 12 9)]) (M2 := (A, G, PF)) (hs2 := []) (C := True) [(.aload_n 0, 0, 0), (.getfield 39, 3, 9)] [] (by decide +kernel) rfl trivial ?_
  refine go_ifz (cnd := .lt) (off := 13) 17 (by decide +kernel) (by decide) (fun (h : (A 12 9) < 0) => absurd h (fun zz => absurd ((nx_lt (a := cnt) (b := 0) hc rfl (by omega) (by omega)).mp zz) (by omega))) (fun _ => ?_)
  refine go_blk (pc2 := 14) (L2 := [.ref 12, .int x, .int y, .int z, .int w]) (st2 := [.int 364, .int (A 12 9)]) (M2 := (A, G, PF)) (hs2 := []) (C := True) [(.aload_n 0, 0, 0), (.getfield 39, 3, 9), (.sipush 364, 0, 0)] [] (by decide +kernel) rfl trivial ?_
  refine go_cmp (cnd := .lt) (off := 4) 18 (by decide +kernel) (by decide) (fun _ => ?_) (fun (h : ¬ (A 12 9) < 364) => absurd h (fun zz => zz ((nx_lt (a := cnt) (b := 364) hc rfl (by omega) (by omega)).mpr (by omega))))
  refine go_blk (pc2 := 73) (L2 := [.ref 12, .int x, .int y, .int z, .int w]) (st2 := [.int w, .int z, .int y, .int x, .ref 12, .int (A 12 9), .ref 21]) (M2 := ((u2 (u2 (u2 (u2 A 17 cnt x) 18 cnt y) 19 cnt z) 20 cnt w), G, PF)) (hs2 := []) (C := ((A 12 9) = nI cnt ∧ cnt < 364) ∧ ((A 12 9) = nI cnt ∧ cnt < 364) ∧ ((A 12 9) = nI cnt ∧ cnt < 364) ∧ ((A 12 9) = nI cnt ∧ cnt < 364) ∧ True) [(.aload_n 0, 0, 0), (.getfield 24, 3, 4), (.aload_n 0, 0, 0), (.getfield 39, 3, 9), (.iload_n 1, 0, 0), (.iastore, 0, 0), (.aload_n 0, 0, 0), (.getfield 27, 3, 5), (.aload_n 0, 0, 0), (.getfield 39, 3, 9), (.iload_n 2, 0, 0), (.iastore, 0, 0), (.aload_n 0, 0, 0), (.getfield 30, 3, 6), (.aload_n 0, 0, 0), (.getfield 39, 3, 9), (.iload_n 3, 0, 0), (.iastore, 0, 0), (.aload_n 0, 0, 0), (.getfield 33, 3, 7), (.aload_n 0, 0, 0), (.getfield 39, 3, 9), (.iload 4, 0, 0), (.iastore, 0, 0), (.aload_n 0, 0, 0), (.getfield 36, 3, 8), (.aload_n 0, 0, 0), (.getfield 39, 3, 9), (.aload_n 0, 0, 0), (.iload_n 1, 0, 0), (.iload_n 2, 0, 0), (.iload_n 3, 0, 0), (.iload 4, 0, 0)] [cnt, cnt, cnt, cnt] (by decide +kernel) rfl ⟨⟨hc, by omega⟩, ⟨hc, by omega⟩, ⟨hc, by omega⟩, ⟨hc, by omega⟩, trivial⟩ ?_
  refine go_call (Y2 := mX3_findSides) (n2 := 27) (st := [.int (A 12 9), .ref 21]) [.ref 12] [.int x, .int y, .int z, .int w] ck_3_78 cwX3_findSides rfl (by decide +kernel) rfl (fun h => absurd h (by decide)) (fun _ => ⟨12, rfl, by decide, rfl⟩) (Nat.le_of_ble_eq_true rfl) (Or.inl rfl) (fun _ _ _ h => h) (s_X3_findSides l (u2 (u2 (u2 (u2 A 17 cnt x) 18 cnt y) 19 cnt z) 20 cnt w) G x y z w) (fun v M2 hp1 => ?_)
  obtain ⟨rfl, rfl⟩ := hp1
  rw [fsd_c (A2 := (u2 (u2 (u2 (u2 A 17 cnt x) 18 cnt y) 19 cnt z) 20 cnt w)) (A := A) rfl rfl rfl rfl]
  show Go l ro0 mX3_keep 27 ((u2 (u2 (u2 (u2 A 17 cnt x) 18 cnt y) 19 cnt z) 20 cnt w), G, PF) 76 [.ref 12, .int x, .int y, .int z, .int w] [.int (fsd A x y z w 8), .int (A 12 9), .ref 21] 27 _
  refine go_blk (pc2 := 87) (L2 := [.ref 12, .int x, .int y, .int z, .int w]) (st2 := []) (M2 := ((u2 (u2 (u2 (u2 (u2 (u2 A 17 cnt x) 18 cnt y) 19 cnt z) 20 cnt w) 21 cnt (fsd A x y z w 8)) 12 9 ((A 12 9) + 1)), G, PF)) (hs2 := []) (C := ((A 12 9) = nI cnt ∧ cnt < 364) ∧ True) [(.iastore, 0, 0), (.aload_n 0, 0, 0), (.dup, 0, 0), (.getfield 39, 3, 9), (.iconst 1, 0, 0), (.iadd, 0, 0), (.putfield 39, 3, 9)] [cnt] (by decide +kernel) rfl ⟨⟨hc, by omega⟩, trivial⟩ ?_
  exact go_retv (by decide +kernel) rfl (⟨rfl, rfl⟩)
set_option maxRecDepth 100000 in
set_option maxHeartbeats 4000000 in
theorem s_X3_meet (l : Launch) (A : Nat → Nat → Int32) (G : Nat → Nat → Int64) (p q r1 : Nat) (hp : p < 14) (hq : q < 14) (hr : r1 < 14) (cnt : Nat) (hc : A 12 9 = nI cnt) (hlt : cnt < 364) : Sem l mX3_meet [.ref 12, .int (nI p), .int (nI q), .int (nI r1)] 27 (A, G, PF) 27 (fun r M2 => r = none ∧ ((InB A p q r1 ∧ M2 = (kp A cnt (cx A p q r1) (cy A p q r1) (cz A p q r1) (cw A p q r1), G, PF)) ∨ (¬ InB A p q r1 ∧ M2 = (A, G, PF)))) := by
  refine sem_of_go (by decide) rfl (by decide) (by decide) rfl (Nat.le_of_ble_eq_true rfl) ?_
  show Go l ro0 mX3_meet 27 (A, G, PF) 0 [.ref 12, .int (nI p), .int (nI q), .int (nI r1), .null, .null, .null, .null, .null, .null, .null] [] 27 (fun r M2 => r = none ∧ ((InB A p q r1 ∧ M2 = (kp A cnt (cx A p q r1) (cy A p q r1) (cz A p q r1) (cw A p q r1), G, PF)) ∨ (¬ InB A p q r1 ∧ M2 = (A, G, PF))))
  refine go_blk (pc2 := 15) (L2 := [.ref 12, .int (nI p), .int (nI q), .int (nI r1), .null, .null, .null, .null, .null, .null, .null]) (st2 := [.int (nI r1), .int (nI q), .int (nI p), .ref 15, .ref 14, .ref 13]) (M2 := (A, G, PF)) (hs2 := []) (C := True) [(.aload_n 0, 0, 0), (.getfield 11, 3, 0), (.aload_n 0, 0, 0), (.getfield 15, 3, 1), (.aload_n 0, 0, 0), (.getfield 18, 3, 2), (.iload_n 1, 0, 0), (.iload_n 2, 0, 0), (.iload_n 3, 0, 0)] [] (by decide +kernel) rfl trivial ?_
  refine go_call (Y2 := mX3_determinant) (n2 := 27) (st := []) [] [.ref 13, .ref 14, .ref 15, .int (nI p), .int (nI q), .int (nI r1)] ck_3_62 cwX3_determinant rfl (by decide +kernel) rfl (fun _ => rfl) (fun h => absurd rfl h) (Nat.le_of_ble_eq_true rfl) (Or.inl rfl) (fun _ _ _ h => h) (s_X3_determinant_13_14_15 l A G p q r1 hp hq hr) (fun v M2 hp1 => ?_)
  obtain ⟨rfl, rfl⟩ := hp1
  show Go l ro0 mX3_meet 27 (A, G, PF) 18 [.ref 12, .int (nI p), .int (nI q), .int (nI r1), .null, .null, .null, .null, .null, .null, .null] [.int (dt (A 13) (A 14) (A 15) p q r1)] 27 _
  refine go_blk (pc2 := 22) (L2 := [.ref 12, .int (nI p), .int (nI q), .int (nI r1), .int (dt (A 13) (A 14) (A 15) p q r1), .null, .null, .null, .null, .null, .null]) (st2 := [.int (dt (A 13) (A 14) (A 15) p q r1)]) (M2 := (A, G, PF)) (hs2 := []) (C := True) [(.istore 4, 0, 0), (.iload 4, 0, 0)] [] (by decide +kernel) rfl trivial ?_
  refine go_ifz (cnd := .ne) (off := 4) 26 (by decide +kernel) (by decide) (fun (c2 : ¬ (dt (A 13) (A 14) (A 15) p q r1) = 0) => ?_) (fun (c2 : (dt (A 13) (A 14) (A 15) p q r1) = 0) => ?_)
  · skip
    refine go_blk (pc2 := 28) (L2 := [.ref 12, .int (nI p), .int (nI q), .int (nI r1), .int (dt (A 13) (A 14) (A 15) p q r1), .null, .null, .null, .null, .null, .null]) (st2 := [.int (dt (A 13) (A 14) (A 15) p q r1)]) (M2 := (A, G, PF)) (hs2 := []) (C := True) [(.iload 4, 0, 0)] [] (by decide +kernel) rfl trivial ?_
    refine go_ifz (cnd := .ge) (off := 7) 35 (by decide +kernel) (by decide) (fun (c3 : 0 ≤ (dt (A 13) (A 14) (A 15) p q r1)) => ?_) (fun (c3 : ¬ 0 ≤ (dt (A 13) (A 14) (A 15) p q r1)) => ?_)
    · skip
      have hsg : sgn (D0 A p q r1) = 1 := if_neg (Int32.not_lt.mpr c3)
      refine go_blk (pc2 := 62) (L2 := [.ref 12, .int (nI p), .int (nI q), .int (nI r1), .int (dt (A 13) (A 14) (A 15) p q r1), .int 1, .int (1 * (dt (A 13) (A 14) (A 15) p q r1)), .null, .null, .null, .null]) (st2 := [.int (nI r1), .int (nI q), .int (nI p), .ref 15, .ref 14, .ref 16, .int 1]) (M2 := (A, G, PF)) (hs2 := []) (C := True) [(.iconst 1, 0, 0), (.istore 5, 0, 0), (.iload 5, 0, 0), (.iload 4, 0, 0), (.imul, 0, 0), (.istore 6, 0, 0), (.iload 5, 0, 0), (.aload_n 0, 0, 0), (.getfield 21, 3, 3), (.aload_n 0, 0, 0), (.getfield 15, 3, 1), (.aload_n 0, 0, 0), (.getfield 18, 3, 2), (.iload_n 1, 0, 0), (.iload_n 2, 0, 0), (.iload_n 3, 0, 0)] [] (by decide +kernel) rfl trivial ?_
      refine go_call (Y2 := mX3_determinant) (n2 := 27) (st := [.int 1]) [] [.ref 16, .ref 14, .ref 15, .int (nI p), .int (nI q), .int (nI r1)] ck_3_62 cwX3_determinant rfl (by decide +kernel) rfl (fun _ => rfl) (fun h => absurd rfl h) (Nat.le_of_ble_eq_true rfl) (Or.inl rfl) (fun _ _ _ h => h) (s_X3_determinant_16_14_15 l A G p q r1 hp hq hr) (fun v M2 hp4 => ?_)
      obtain ⟨rfl, rfl⟩ := hp4
      show Go l ro0 mX3_meet 27 (A, G, PF) 65 [.ref 12, .int (nI p), .int (nI q), .int (nI r1), .int (dt (A 13) (A 14) (A 15) p q r1), .int 1, .int (1 * (dt (A 13) (A 14) (A 15) p q r1)), .null, .null, .null, .null] [.int (dt (A 16) (A 14) (A 15) p q r1), .int 1] 27 _
      refine go_blk (pc2 := 85) (L2 := [.ref 12, .int (nI p), .int (nI q), .int (nI r1), .int (dt (A 13) (A 14) (A 15) p q r1), .int 1, .int (1 * (dt (A 13) (A 14) (A 15) p q r1)), .int (1 * (dt (A 16) (A 14) (A 15) p q r1)), .null, .null, .null]) (st2 := [.int (nI r1), .int (nI q), .int (nI p), .ref 15, .ref 16, .ref 13, .int 1]) (M2 := (A, G, PF)) (hs2 := []) (C := True) [(.imul, 0, 0), (.istore 7, 0, 0), (.iload 5, 0, 0), (.aload_n 0, 0, 0), (.getfield 11, 3, 0), (.aload_n 0, 0, 0), (.getfield 21, 3, 3), (.aload_n 0, 0, 0), (.getfield 18, 3, 2), (.iload_n 1, 0, 0), (.iload_n 2, 0, 0), (.iload_n 3, 0, 0)] [] (by decide +kernel) rfl trivial ?_
      refine go_call (Y2 := mX3_determinant) (n2 := 27) (st := [.int 1]) [] [.ref 13, .ref 16, .ref 15, .int (nI p), .int (nI q), .int (nI r1)] ck_3_62 cwX3_determinant rfl (by decide +kernel) rfl (fun _ => rfl) (fun h => absurd rfl h) (Nat.le_of_ble_eq_true rfl) (Or.inl rfl) (fun _ _ _ h => h) (s_X3_determinant_13_16_15 l A G p q r1 hp hq hr) (fun v M2 hp5 => ?_)
      obtain ⟨rfl, rfl⟩ := hp5
      show Go l ro0 mX3_meet 27 (A, G, PF) 88 [.ref 12, .int (nI p), .int (nI q), .int (nI r1), .int (dt (A 13) (A 14) (A 15) p q r1), .int 1, .int (1 * (dt (A 13) (A 14) (A 15) p q r1)), .int (1 * (dt (A 16) (A 14) (A 15) p q r1)), .null, .null, .null] [.int (dt (A 13) (A 16) (A 15) p q r1), .int 1] 27 _
      refine go_blk (pc2 := 108) (L2 := [.ref 12, .int (nI p), .int (nI q), .int (nI r1), .int (dt (A 13) (A 14) (A 15) p q r1), .int 1, .int (1 * (dt (A 13) (A 14) (A 15) p q r1)), .int (1 * (dt (A 16) (A 14) (A 15) p q r1)), .int (1 * (dt (A 13) (A 16) (A 15) p q r1)), .null, .null]) (st2 := [.int (nI r1), .int (nI q), .int (nI p), .ref 16, .ref 14, .ref 13, .int 1]) (M2 := (A, G, PF)) (hs2 := []) (C := True) [(.imul, 0, 0), (.istore 8, 0, 0), (.iload 5, 0, 0), (.aload_n 0, 0, 0), (.getfield 11, 3, 0), (.aload_n 0, 0, 0), (.getfield 15, 3, 1), (.aload_n 0, 0, 0), (.getfield 21, 3, 3), (.iload_n 1, 0, 0), (.iload_n 2, 0, 0), (.iload_n 3, 0, 0)] [] (by decide +kernel) rfl trivial ?_
      refine go_call (Y2 := mX3_determinant) (n2 := 27) (st := [.int 1]) [] [.ref 13, .ref 14, .ref 16, .int (nI p), .int (nI q), .int (nI r1)] ck_3_62 cwX3_determinant rfl (by decide +kernel) rfl (fun _ => rfl) (fun h => absurd rfl h) (Nat.le_of_ble_eq_true rfl) (Or.inl rfl) (fun _ _ _ h => h) (s_X3_determinant_13_14_16 l A G p q r1 hp hq hr) (fun v M2 hp6 => ?_)
      obtain ⟨rfl, rfl⟩ := hp6
      show Go l ro0 mX3_meet 27 (A, G, PF) 111 [.ref 12, .int (nI p), .int (nI q), .int (nI r1), .int (dt (A 13) (A 14) (A 15) p q r1), .int 1, .int (1 * (dt (A 13) (A 14) (A 15) p q r1)), .int (1 * (dt (A 16) (A 14) (A 15) p q r1)), .int (1 * (dt (A 13) (A 16) (A 15) p q r1)), .null, .null] [.int (dt (A 13) (A 14) (A 16) p q r1), .int 1] 27 _
      refine go_blk (pc2 := 125) (L2 := [.ref 12, .int (nI p), .int (nI q), .int (nI r1), .int (dt (A 13) (A 14) (A 15) p q r1), .int 1, .int (1 * (dt (A 13) (A 14) (A 15) p q r1)), .int (1 * (dt (A 16) (A 14) (A 15) p q r1)), .int (1 * (dt (A 13) (A 16) (A 15) p q r1)), .int (1 * (dt (A 13) (A 14) (A 16) p q r1)), .int (20 * (1 * (dt (A 13) (A 14) (A 15) p q r1)))]) (st2 := [.int (20 * (1 * (dt (A 13) (A 14) (A 15) p q r1))), .int (1 * (dt (A 16) (A 14) (A 15) p q r1))]) (M2 := (A, G, PF)) (hs2 := []) (C := True) [(.imul, 0, 0), (.istore 9, 0, 0), (.bipush 20, 0, 0), (.iload 6, 0, 0), (.imul, 0, 0), (.istore 10, 0, 0), (.iload 7, 0, 0), (.iload 10, 0, 0)] [] (by decide +kernel) rfl trivial ?_
      refine go_call (Y2 := mX5_isWithin) (n2 := 27) (st := []) [] [.int (1 * (dt (A 16) (A 14) (A 15) p q r1)), .int (20 * (1 * (dt (A 13) (A 14) (A 15) p q r1)))] ck_3_66 cwX5_isWithin rfl (by decide +kernel) rfl (fun _ => rfl) (fun h => absurd rfl h) (Nat.le_of_ble_eq_true rfl) (Or.inl rfl) (fun _ _ _ h => h) (s_X5_isWithin l A G (1 * (dt (A 16) (A 14) (A 15) p q r1)) (20 * (1 * (dt (A 13) (A 14) (A 15) p q r1)))) (fun v M2 hp7 => ?_)
      obtain ⟨rfl, rfl⟩ := hp7
      rcases Classical.em (-(20 * (1 * (dt (A 13) (A 14) (A 15) p q r1))) ≤ (1 * (dt (A 16) (A 14) (A 15) p q r1)) ∧ (1 * (dt (A 16) (A 14) (A 15) p q r1)) ≤ (20 * (1 * (dt (A 13) (A 14) (A 15) p q r1)))) with hb8 | hb8
      · rw [bi_t hb8]
        show Go l ro0 mX3_meet 27 (A, G, PF) 128 [.ref 12, .int (nI p), .int (nI q), .int (nI r1), .int (dt (A 13) (A 14) (A 15) p q r1), .int 1, .int (1 * (dt (A 13) (A 14) (A 15) p q r1)), .int (1 * (dt (A 16) (A 14) (A 15) p q r1)), .int (1 * (dt (A 13) (A 16) (A 15) p q r1)), .int (1 * (dt (A 13) (A 14) (A 16) p q r1)), .int (20 * (1 * (dt (A 13) (A 14) (A 15) p q r1)))] [.int 1] 27 _
        refine go_ifz (cnd := .eq) (off := 35) 163 (by decide +kernel) (by decide) (fun (h : (1 : Int32) = 0) => absurd h (by decide)) (fun _ => ?_)
        refine go_blk (pc2 := 135) (L2 := [.ref 12, .int (nI p), .int (nI q), .int (nI r1), .int (dt (A 13) (A 14) (A 15) p q r1), .int 1, .int (1 * (dt (A 13) (A 14) (A 15) p q r1)), .int (1 * (dt (A 16) (A 14) (A 15) p q r1)), .int (1 * (dt (A 13) (A 16) (A 15) p q r1)), .int (1 * (dt (A 13) (A 14) (A 16) p q r1)), .int (20 * (1 * (dt (A 13) (A 14) (A 15) p q r1)))]) (st2 := [.int (20 * (1 * (dt (A 13) (A 14) (A 15) p q r1))), .int (1 * (dt (A 13) (A 16) (A 15) p q r1))]) (M2 := (A, G, PF)) (hs2 := []) (C := True) [(.iload 8, 0, 0), (.iload 10, 0, 0)] [] (by decide +kernel) rfl trivial ?_
        refine go_call (Y2 := mX5_isWithin) (n2 := 27) (st := []) [] [.int (1 * (dt (A 13) (A 16) (A 15) p q r1)), .int (20 * (1 * (dt (A 13) (A 14) (A 15) p q r1)))] ck_3_66 cwX5_isWithin rfl (by decide +kernel) rfl (fun _ => rfl) (fun h => absurd rfl h) (Nat.le_of_ble_eq_true rfl) (Or.inl rfl) (fun _ _ _ h => h) (s_X5_isWithin l A G (1 * (dt (A 13) (A 16) (A 15) p q r1)) (20 * (1 * (dt (A 13) (A 14) (A 15) p q r1)))) (fun v M2 hp9 => ?_)
        obtain ⟨rfl, rfl⟩ := hp9
        rcases Classical.em (-(20 * (1 * (dt (A 13) (A 14) (A 15) p q r1))) ≤ (1 * (dt (A 13) (A 16) (A 15) p q r1)) ∧ (1 * (dt (A 13) (A 16) (A 15) p q r1)) ≤ (20 * (1 * (dt (A 13) (A 14) (A 15) p q r1)))) with hb10 | hb10
        · rw [bi_t hb10]
          show Go l ro0 mX3_meet 27 (A, G, PF) 138 [.ref 12, .int (nI p), .int (nI q), .int (nI r1), .int (dt (A 13) (A 14) (A 15) p q r1), .int 1, .int (1 * (dt (A 13) (A 14) (A 15) p q r1)), .int (1 * (dt (A 16) (A 14) (A 15) p q r1)), .int (1 * (dt (A 13) (A 16) (A 15) p q r1)), .int (1 * (dt (A 13) (A 14) (A 16) p q r1)), .int (20 * (1 * (dt (A 13) (A 14) (A 15) p q r1)))] [.int 1] 27 _
          refine go_ifz (cnd := .eq) (off := 25) 163 (by decide +kernel) (by decide) (fun (h : (1 : Int32) = 0) => absurd h (by decide)) (fun _ => ?_)
          refine go_blk (pc2 := 145) (L2 := [.ref 12, .int (nI p), .int (nI q), .int (nI r1), .int (dt (A 13) (A 14) (A 15) p q r1), .int 1, .int (1 * (dt (A 13) (A 14) (A 15) p q r1)), .int (1 * (dt (A 16) (A 14) (A 15) p q r1)), .int (1 * (dt (A 13) (A 16) (A 15) p q r1)), .int (1 * (dt (A 13) (A 14) (A 16) p q r1)), .int (20 * (1 * (dt (A 13) (A 14) (A 15) p q r1)))]) (st2 := [.int (20 * (1 * (dt (A 13) (A 14) (A 15) p q r1))), .int (1 * (dt (A 13) (A 14) (A 16) p q r1))]) (M2 := (A, G, PF)) (hs2 := []) (C := True) [(.iload 9, 0, 0), (.iload 10, 0, 0)] [] (by decide +kernel) rfl trivial ?_
          refine go_call (Y2 := mX5_isWithin) (n2 := 27) (st := []) [] [.int (1 * (dt (A 13) (A 14) (A 16) p q r1)), .int (20 * (1 * (dt (A 13) (A 14) (A 15) p q r1)))] ck_3_66 cwX5_isWithin rfl (by decide +kernel) rfl (fun _ => rfl) (fun h => absurd rfl h) (Nat.le_of_ble_eq_true rfl) (Or.inl rfl) (fun _ _ _ h => h) (s_X5_isWithin l A G (1 * (dt (A 13) (A 14) (A 16) p q r1)) (20 * (1 * (dt (A 13) (A 14) (A 15) p q r1)))) (fun v M2 hp11 => ?_)
          obtain ⟨rfl, rfl⟩ := hp11
          rcases Classical.em (-(20 * (1 * (dt (A 13) (A 14) (A 15) p q r1))) ≤ (1 * (dt (A 13) (A 14) (A 16) p q r1)) ∧ (1 * (dt (A 13) (A 14) (A 16) p q r1)) ≤ (20 * (1 * (dt (A 13) (A 14) (A 15) p q r1)))) with hb12 | hb12
          · rw [bi_t hb12]
            show Go l ro0 mX3_meet 27 (A, G, PF) 148 [.ref 12, .int (nI p), .int (nI q), .int (nI r1), .int (dt (A 13) (A 14) (A 15) p q r1), .int 1, .int (1 * (dt (A 13) (A 14) (A 15) p q r1)), .int (1 * (dt (A 16) (A 14) (A 15) p q r1)), .int (1 * (dt (A 13) (A 16) (A 15) p q r1)), .int (1 * (dt (A 13) (A 14) (A 16) p q r1)), .int (20 * (1 * (dt (A 13) (A 14) (A 15) p q r1)))] [.int 1] 27 _
            refine go_ifz (cnd := .eq) (off := 15) 163 (by decide +kernel) (by decide) (fun (h : (1 : Int32) = 0) => absurd h (by decide)) (fun _ => ?_)
            refine go_blk (pc2 := 160) (L2 := [.ref 12, .int (nI p), .int (nI q), .int (nI r1), .int (dt (A 13) (A 14) (A 15) p q r1), .int 1, .int (1 * (dt (A 13) (A 14) (A 15) p q r1)), .int (1 * (dt (A 16) (A 14) (A 15) p q r1)), .int (1 * (dt (A 13) (A 16) (A 15) p q r1)), .int (1 * (dt (A 13) (A 14) (A 16) p q r1)), .int (20 * (1 * (dt (A 13) (A 14) (A 15) p q r1)))]) (st2 := [.int (1 * (dt (A 13) (A 14) (A 15) p q r1)), .int (1 * (dt (A 13) (A 14) (A 16) p q r1)), .int (1 * (dt (A 13) (A 16) (A 15) p q r1)), .int (1 * (dt (A 16) (A 14) (A 15) p q r1)), .ref 12]) (M2 := (A, G, PF)) (hs2 := []) (C := True) [(.aload_n 0, 0, 0), (.iload 7, 0, 0), (.iload 8, 0, 0), (.iload 9, 0, 0), (.iload 6, 0, 0)] [] (by decide +kernel) rfl trivial ?_
            refine go_call (Y2 := mX3_keep) (n2 := 27) (st := []) [.ref 12] [.int (1 * (dt (A 16) (A 14) (A 15) p q r1)), .int (1 * (dt (A 13) (A 16) (A 15) p q r1)), .int (1 * (dt (A 13) (A 14) (A 16) p q r1)), .int (1 * (dt (A 13) (A 14) (A 15) p q r1))] ck_3_70 cwX3_keep rfl (by decide +kernel) rfl (fun h => absurd h (by decide)) (fun _ => ⟨12, rfl, by decide, rfl⟩) (Nat.le_of_ble_eq_true rfl) (Or.inl rfl) (fun _ _ _ h => h) (s_X3_keep l A G (1 * (dt (A 16) (A 14) (A 15) p q r1)) (1 * (dt (A 13) (A 16) (A 15) p q r1)) (1 * (dt (A 13) (A 14) (A 16) p q r1)) (1 * (dt (A 13) (A 14) (A 15) p q r1)) cnt hc hlt) (fun v M2 hp13 => ?_)
            obtain ⟨rfl, rfl⟩ := hp13
            show Go l ro0 mX3_meet 27 ((kp A cnt (1 * (dt (A 16) (A 14) (A 15) p q r1)) (1 * (dt (A 13) (A 16) (A 15) p q r1)) (1 * (dt (A 13) (A 14) (A 16) p q r1)) (1 * (dt (A 13) (A 14) (A 15) p q r1))), G, PF) 163 [.ref 12, .int (nI p), .int (nI q), .int (nI r1), .int (dt (A 13) (A 14) (A 15) p q r1), .int 1, .int (1 * (dt (A 13) (A 14) (A 15) p q r1)), .int (1 * (dt (A 16) (A 14) (A 15) p q r1)), .int (1 * (dt (A 13) (A 16) (A 15) p q r1)), .int (1 * (dt (A 13) (A 14) (A 16) p q r1)), .int (20 * (1 * (dt (A 13) (A 14) (A 15) p q r1)))] [] 27 _
            exact go_retv (by decide +kernel) rfl (⟨rfl, Or.inl ⟨by unfold InB cx cy cz cw; rw [hsg]; exact ⟨by assumption, by assumption, by assumption, by assumption⟩, by unfold cx cy cz cw; rw [hsg]; rfl⟩⟩)
          · rw [bi_f hb12]
            show Go l ro0 mX3_meet 27 (A, G, PF) 148 [.ref 12, .int (nI p), .int (nI q), .int (nI r1), .int (dt (A 13) (A 14) (A 15) p q r1), .int 1, .int (1 * (dt (A 13) (A 14) (A 15) p q r1)), .int (1 * (dt (A 16) (A 14) (A 15) p q r1)), .int (1 * (dt (A 13) (A 16) (A 15) p q r1)), .int (1 * (dt (A 13) (A 14) (A 16) p q r1)), .int (20 * (1 * (dt (A 13) (A 14) (A 15) p q r1)))] [.int 0] 27 _
            refine go_ifz (cnd := .eq) (off := 15) 163 (by decide +kernel) (by decide) (fun _ => ?_) (fun (h : ¬ (0 : Int32) = 0) => absurd h (by decide))
            exact go_retv (by decide +kernel) rfl (⟨rfl, Or.inr ⟨by unfold InB cx cy cz cw; rw [hsg]; intro q; first | exact absurd q.2.1 (by assumption) | exact absurd q.2.2.1 (by assumption) | exact absurd q.2.2.2 (by assumption), rfl⟩⟩)
        · rw [bi_f hb10]
          show Go l ro0 mX3_meet 27 (A, G, PF) 138 [.ref 12, .int (nI p), .int (nI q), .int (nI r1), .int (dt (A 13) (A 14) (A 15) p q r1), .int 1, .int (1 * (dt (A 13) (A 14) (A 15) p q r1)), .int (1 * (dt (A 16) (A 14) (A 15) p q r1)), .int (1 * (dt (A 13) (A 16) (A 15) p q r1)), .int (1 * (dt (A 13) (A 14) (A 16) p q r1)), .int (20 * (1 * (dt (A 13) (A 14) (A 15) p q r1)))] [.int 0] 27 _
          refine go_ifz (cnd := .eq) (off := 25) 163 (by decide +kernel) (by decide) (fun _ => ?_) (fun (h : ¬ (0 : Int32) = 0) => absurd h (by decide))
          exact go_retv (by decide +kernel) rfl (⟨rfl, Or.inr ⟨by unfold InB cx cy cz cw; rw [hsg]; intro q; first | exact absurd q.2.1 (by assumption) | exact absurd q.2.2.1 (by assumption) | exact absurd q.2.2.2 (by assumption), rfl⟩⟩)
      · rw [bi_f hb8]
        show Go l ro0 mX3_meet 27 (A, G, PF) 128 [.ref 12, .int (nI p), .int (nI q), .int (nI r1), .int (dt (A 13) (A 14) (A 15) p q r1), .int 1, .int (1 * (dt (A 13) (A 14) (A 15) p q r1)), .int (1 * (dt (A 16) (A 14) (A 15) p q r1)), .int (1 * (dt (A 13) (A 16) (A 15) p q r1)), .int (1 * (dt (A 13) (A 14) (A 16) p q r1)), .int (20 * (1 * (dt (A 13) (A 14) (A 15) p q r1)))] [.int 0] 27 _
        refine go_ifz (cnd := .eq) (off := 35) 163 (by decide +kernel) (by decide) (fun _ => ?_) (fun (h : ¬ (0 : Int32) = 0) => absurd h (by decide))
        exact go_retv (by decide +kernel) rfl (⟨rfl, Or.inr ⟨by unfold InB cx cy cz cw; rw [hsg]; intro q; first | exact absurd q.2.1 (by assumption) | exact absurd q.2.2.1 (by assumption) | exact absurd q.2.2.2 (by assumption), rfl⟩⟩)
    · skip
      have hsg : sgn (D0 A p q r1) = (-1) := if_pos (Int32.not_le.mp c3)
      refine go_blk (pc2 := 32) (L2 := [.ref 12, .int (nI p), .int (nI q), .int (nI r1), .int (dt (A 13) (A 14) (A 15) p q r1), .null, .null, .null, .null, .null, .null]) (st2 := [.int (-1)]) (M2 := (A, G, PF)) (hs2 := []) (C := True) [(.iconst (-1), 0, 0)] [] (by decide +kernel) rfl trivial ?_
      refine go_goto (off := 4) 36 (by decide +kernel) (by decide) ?_
      refine go_blk (pc2 := 62) (L2 := [.ref 12, .int (nI p), .int (nI q), .int (nI r1), .int (dt (A 13) (A 14) (A 15) p q r1), .int (-1), .int ((-1) * (dt (A 13) (A 14) (A 15) p q r1)), .null, .null, .null, .null]) (st2 := [.int (nI r1), .int (nI q), .int (nI p), .ref 15, .ref 14, .ref 16, .int (-1)]) (M2 := (A, G, PF)) (hs2 := []) (C := True) [(.istore 5, 0, 0), (.iload 5, 0, 0), (.iload 4, 0, 0), (.imul, 0, 0), (.istore 6, 0, 0), (.iload 5, 0, 0), (.aload_n 0, 0, 0), (.getfield 21, 3, 3), (.aload_n 0, 0, 0), (.getfield 15, 3, 1), (.aload_n 0, 0, 0), (.getfield 18, 3, 2), (.iload_n 1, 0, 0), (.iload_n 2, 0, 0), (.iload_n 3, 0, 0)] [] (by decide +kernel) rfl trivial ?_
      refine go_call (Y2 := mX3_determinant) (n2 := 27) (st := [.int (-1)]) [] [.ref 16, .ref 14, .ref 15, .int (nI p), .int (nI q), .int (nI r1)] ck_3_62 cwX3_determinant rfl (by decide +kernel) rfl (fun _ => rfl) (fun h => absurd rfl h) (Nat.le_of_ble_eq_true rfl) (Or.inl rfl) (fun _ _ _ h => h) (s_X3_determinant_16_14_15 l A G p q r1 hp hq hr) (fun v M2 hp14 => ?_)
      obtain ⟨rfl, rfl⟩ := hp14
      show Go l ro0 mX3_meet 27 (A, G, PF) 65 [.ref 12, .int (nI p), .int (nI q), .int (nI r1), .int (dt (A 13) (A 14) (A 15) p q r1), .int (-1), .int ((-1) * (dt (A 13) (A 14) (A 15) p q r1)), .null, .null, .null, .null] [.int (dt (A 16) (A 14) (A 15) p q r1), .int (-1)] 27 _
      refine go_blk (pc2 := 85) (L2 := [.ref 12, .int (nI p), .int (nI q), .int (nI r1), .int (dt (A 13) (A 14) (A 15) p q r1), .int (-1), .int ((-1) * (dt (A 13) (A 14) (A 15) p q r1)), .int ((-1) * (dt (A 16) (A 14) (A 15) p q r1)), .null, .null, .null]) (st2 := [.int (nI r1), .int (nI q), .int (nI p), .ref 15, .ref 16, .ref 13, .int (-1)]) (M2 := (A, G, PF)) (hs2 := []) (C := True) [(.imul, 0, 0), (.istore 7, 0, 0), (.iload 5, 0, 0), (.aload_n 0, 0, 0), (.getfield 11, 3, 0), (.aload_n 0, 0, 0), (.getfield 21, 3, 3), (.aload_n 0, 0, 0), (.getfield 18, 3, 2), (.iload_n 1, 0, 0), (.iload_n 2, 0, 0), (.iload_n 3, 0, 0)] [] (by decide +kernel) rfl trivial ?_
      refine go_call (Y2 := mX3_determinant) (n2 := 27) (st := [.int (-1)]) [] [.ref 13, .ref 16, .ref 15, .int (nI p), .int (nI q), .int (nI r1)] ck_3_62 cwX3_determinant rfl (by decide +kernel) rfl (fun _ => rfl) (fun h => absurd rfl h) (Nat.le_of_ble_eq_true rfl) (Or.inl rfl) (fun _ _ _ h => h) (s_X3_determinant_13_16_15 l A G p q r1 hp hq hr) (fun v M2 hp15 => ?_)
      obtain ⟨rfl, rfl⟩ := hp15
      show Go l ro0 mX3_meet 27 (A, G, PF) 88 [.ref 12, .int (nI p), .int (nI q), .int (nI r1), .int (dt (A 13) (A 14) (A 15) p q r1), .int (-1), .int ((-1) * (dt (A 13) (A 14) (A 15) p q r1)), .int ((-1) * (dt (A 16) (A 14) (A 15) p q r1)), .null, .null, .null] [.int (dt (A 13) (A 16) (A 15) p q r1), .int (-1)] 27 _
      refine go_blk (pc2 := 108) (L2 := [.ref 12, .int (nI p), .int (nI q), .int (nI r1), .int (dt (A 13) (A 14) (A 15) p q r1), .int (-1), .int ((-1) * (dt (A 13) (A 14) (A 15) p q r1)), .int ((-1) * (dt (A 16) (A 14) (A 15) p q r1)), .int ((-1) * (dt (A 13) (A 16) (A 15) p q r1)), .null, .null]) (st2 := [.int (nI r1), .int (nI q), .int (nI p), .ref 16, .ref 14, .ref 13, .int (-1)]) (M2 := (A, G, PF)) (hs2 := []) (C := True) [(.imul, 0, 0), (.istore 8, 0, 0), (.iload 5, 0, 0), (.aload_n 0, 0, 0), (.getfield 11, 3, 0), (.aload_n 0, 0, 0), (.getfield 15, 3, 1), (.aload_n 0, 0, 0), (.getfield 21, 3, 3), (.iload_n 1, 0, 0), (.iload_n 2, 0, 0), (.iload_n 3, 0, 0)] [] (by decide +kernel) rfl trivial ?_
      refine go_call (Y2 := mX3_determinant) (n2 := 27) (st := [.int (-1)]) [] [.ref 13, .ref 14, .ref 16, .int (nI p), .int (nI q), .int (nI r1)] ck_3_62 cwX3_determinant rfl (by decide +kernel) rfl (fun _ => rfl) (fun h => absurd rfl h) (Nat.le_of_ble_eq_true rfl) (Or.inl rfl) (fun _ _ _ h => h) (s_X3_determinant_13_14_16 l A G p q r1 hp hq hr) (fun v M2 hp16 => ?_)
      obtain ⟨rfl, rfl⟩ := hp16
      show Go l ro0 mX3_meet 27 (A, G, PF) 111 [.ref 12, .int (nI p), .int (nI q), .int (nI r1), .int (dt (A 13) (A 14) (A 15) p q r1), .int (-1), .int ((-1) * (dt (A 13) (A 14) (A 15) p q r1)), .int ((-1) * (dt (A 16) (A 14) (A 15) p q r1)), .int ((-1) * (dt (A 13) (A 16) (A 15) p q r1)), .null, .null] [.int (dt (A 13) (A 14) (A 16) p q r1), .int (-1)] 27 _
      refine go_blk (pc2 := 125) (L2 := [.ref 12, .int (nI p), .int (nI q), .int (nI r1), .int (dt (A 13) (A 14) (A 15) p q r1), .int (-1), .int ((-1) * (dt (A 13) (A 14) (A 15) p q r1)), .int ((-1) * (dt (A 16) (A 14) (A 15) p q r1)), .int ((-1) * (dt (A 13) (A 16) (A 15) p q r1)), .int ((-1) * (dt (A 13) (A 14) (A 16) p q r1)), .int (20 * ((-1) * (dt (A 13) (A 14) (A 15) p q r1)))]) (st2 := [.int (20 * ((-1) * (dt (A 13) (A 14) (A 15) p q r1))), .int ((-1) * (dt (A 16) (A 14) (A 15) p q r1))]) (M2 := (A, G, PF)) (hs2 := []) (C := True) [(.imul, 0, 0), (.istore 9, 0, 0), (.bipush 20, 0, 0), (.iload 6, 0, 0), (.imul, 0, 0), (.istore 10, 0, 0), (.iload 7, 0, 0), (.iload 10, 0, 0)] [] (by decide +kernel) rfl trivial ?_
      refine go_call (Y2 := mX5_isWithin) (n2 := 27) (st := []) [] [.int ((-1) * (dt (A 16) (A 14) (A 15) p q r1)), .int (20 * ((-1) * (dt (A 13) (A 14) (A 15) p q r1)))] ck_3_66 cwX5_isWithin rfl (by decide +kernel) rfl (fun _ => rfl) (fun h => absurd rfl h) (Nat.le_of_ble_eq_true rfl) (Or.inl rfl) (fun _ _ _ h => h) (s_X5_isWithin l A G ((-1) * (dt (A 16) (A 14) (A 15) p q r1)) (20 * ((-1) * (dt (A 13) (A 14) (A 15) p q r1)))) (fun v M2 hp17 => ?_)
      obtain ⟨rfl, rfl⟩ := hp17
      rcases Classical.em (-(20 * ((-1) * (dt (A 13) (A 14) (A 15) p q r1))) ≤ ((-1) * (dt (A 16) (A 14) (A 15) p q r1)) ∧ ((-1) * (dt (A 16) (A 14) (A 15) p q r1)) ≤ (20 * ((-1) * (dt (A 13) (A 14) (A 15) p q r1)))) with hb18 | hb18
      · rw [bi_t hb18]
        show Go l ro0 mX3_meet 27 (A, G, PF) 128 [.ref 12, .int (nI p), .int (nI q), .int (nI r1), .int (dt (A 13) (A 14) (A 15) p q r1), .int (-1), .int ((-1) * (dt (A 13) (A 14) (A 15) p q r1)), .int ((-1) * (dt (A 16) (A 14) (A 15) p q r1)), .int ((-1) * (dt (A 13) (A 16) (A 15) p q r1)), .int ((-1) * (dt (A 13) (A 14) (A 16) p q r1)), .int (20 * ((-1) * (dt (A 13) (A 14) (A 15) p q r1)))] [.int 1] 27 _
        refine go_ifz (cnd := .eq) (off := 35) 163 (by decide +kernel) (by decide) (fun (h : (1 : Int32) = 0) => absurd h (by decide)) (fun _ => ?_)
        refine go_blk (pc2 := 135) (L2 := [.ref 12, .int (nI p), .int (nI q), .int (nI r1), .int (dt (A 13) (A 14) (A 15) p q r1), .int (-1), .int ((-1) * (dt (A 13) (A 14) (A 15) p q r1)), .int ((-1) * (dt (A 16) (A 14) (A 15) p q r1)), .int ((-1) * (dt (A 13) (A 16) (A 15) p q r1)), .int ((-1) * (dt (A 13) (A 14) (A 16) p q r1)), .int (20 * ((-1) * (dt (A 13) (A 14) (A 15) p q r1)))]) (st2 := [.int (20 * ((-1) * (dt (A 13) (A 14) (A 15) p q r1))), .int ((-1) * (dt (A 13) (A 16) (A 15) p q r1))]) (M2 := (A, G, PF)) (hs2 := []) (C := True) [(.iload 8, 0, 0), (.iload 10, 0, 0)] [] (by decide +kernel) rfl trivial ?_
        refine go_call (Y2 := mX5_isWithin) (n2 := 27) (st := []) [] [.int ((-1) * (dt (A 13) (A 16) (A 15) p q r1)), .int (20 * ((-1) * (dt (A 13) (A 14) (A 15) p q r1)))] ck_3_66 cwX5_isWithin rfl (by decide +kernel) rfl (fun _ => rfl) (fun h => absurd rfl h) (Nat.le_of_ble_eq_true rfl) (Or.inl rfl) (fun _ _ _ h => h) (s_X5_isWithin l A G ((-1) * (dt (A 13) (A 16) (A 15) p q r1)) (20 * ((-1) * (dt (A 13) (A 14) (A 15) p q r1)))) (fun v M2 hp19 => ?_)
        obtain ⟨rfl, rfl⟩ := hp19
        rcases Classical.em (-(20 * ((-1) * (dt (A 13) (A 14) (A 15) p q r1))) ≤ ((-1) * (dt (A 13) (A 16) (A 15) p q r1)) ∧ ((-1) * (dt (A 13) (A 16) (A 15) p q r1)) ≤ (20 * ((-1) * (dt (A 13) (A 14) (A 15) p q r1)))) with hb20 | hb20
        · rw [bi_t hb20]
          show Go l ro0 mX3_meet 27 (A, G, PF) 138 [.ref 12, .int (nI p), .int (nI q), .int (nI r1), .int (dt (A 13) (A 14) (A 15) p q r1), .int (-1), .int ((-1) * (dt (A 13) (A 14) (A 15) p q r1)), .int ((-1) * (dt (A 16) (A 14) (A 15) p q r1)), .int ((-1) * (dt (A 13) (A 16) (A 15) p q r1)), .int ((-1) * (dt (A 13) (A 14) (A 16) p q r1)), .int (20 * ((-1) * (dt (A 13) (A 14) (A 15) p q r1)))] [.int 1] 27 _
          refine go_ifz (cnd := .eq) (off := 25) 163 (by decide +kernel) (by decide) (fun (h : (1 : Int32) = 0) => absurd h (by decide)) (fun _ => ?_)
          refine go_blk (pc2 := 145) (L2 := [.ref 12, .int (nI p), .int (nI q), .int (nI r1), .int (dt (A 13) (A 14) (A 15) p q r1), .int (-1), .int ((-1) * (dt (A 13) (A 14) (A 15) p q r1)), .int ((-1) * (dt (A 16) (A 14) (A 15) p q r1)), .int ((-1) * (dt (A 13) (A 16) (A 15) p q r1)), .int ((-1) * (dt (A 13) (A 14) (A 16) p q r1)), .int (20 * ((-1) * (dt (A 13) (A 14) (A 15) p q r1)))]) (st2 := [.int (20 * ((-1) * (dt (A 13) (A 14) (A 15) p q r1))), .int ((-1) * (dt (A 13) (A 14) (A 16) p q r1))]) (M2 := (A, G, PF)) (hs2 := []) (C := True) [(.iload 9, 0, 0), (.iload 10, 0, 0)] [] (by decide +kernel) rfl trivial ?_
          refine go_call (Y2 := mX5_isWithin) (n2 := 27) (st := []) [] [.int ((-1) * (dt (A 13) (A 14) (A 16) p q r1)), .int (20 * ((-1) * (dt (A 13) (A 14) (A 15) p q r1)))] ck_3_66 cwX5_isWithin rfl (by decide +kernel) rfl (fun _ => rfl) (fun h => absurd rfl h) (Nat.le_of_ble_eq_true rfl) (Or.inl rfl) (fun _ _ _ h => h) (s_X5_isWithin l A G ((-1) * (dt (A 13) (A 14) (A 16) p q r1)) (20 * ((-1) * (dt (A 13) (A 14) (A 15) p q r1)))) (fun v M2 hp21 => ?_)
          obtain ⟨rfl, rfl⟩ := hp21
          rcases Classical.em (-(20 * ((-1) * (dt (A 13) (A 14) (A 15) p q r1))) ≤ ((-1) * (dt (A 13) (A 14) (A 16) p q r1)) ∧ ((-1) * (dt (A 13) (A 14) (A 16) p q r1)) ≤ (20 * ((-1) * (dt (A 13) (A 14) (A 15) p q r1)))) with hb22 | hb22
          · rw [bi_t hb22]
            show Go l ro0 mX3_meet 27 (A, G, PF) 148 [.ref 12, .int (nI p), .int (nI q), .int (nI r1), .int (dt (A 13) (A 14) (A 15) p q r1), .int (-1), .int ((-1) * (dt (A 13) (A 14) (A 15) p q r1)), .int ((-1) * (dt (A 16) (A 14) (A 15) p q r1)), .int ((-1) * (dt (A 13) (A 16) (A 15) p q r1)), .int ((-1) * (dt (A 13) (A 14) (A 16) p q r1)), .int (20 * ((-1) * (dt (A 13) (A 14) (A 15) p q r1)))] [.int 1] 27 _
            refine go_ifz (cnd := .eq) (off := 15) 163 (by decide +kernel) (by decide) (fun (h : (1 : Int32) = 0) => absurd h (by decide)) (fun _ => ?_)
            refine go_blk (pc2 := 160) (L2 := [.ref 12, .int (nI p), .int (nI q), .int (nI r1), .int (dt (A 13) (A 14) (A 15) p q r1), .int (-1), .int ((-1) * (dt (A 13) (A 14) (A 15) p q r1)), .int ((-1) * (dt (A 16) (A 14) (A 15) p q r1)), .int ((-1) * (dt (A 13) (A 16) (A 15) p q r1)), .int ((-1) * (dt (A 13) (A 14) (A 16) p q r1)), .int (20 * ((-1) * (dt (A 13) (A 14) (A 15) p q r1)))]) (st2 := [.int ((-1) * (dt (A 13) (A 14) (A 15) p q r1)), .int ((-1) * (dt (A 13) (A 14) (A 16) p q r1)), .int ((-1) * (dt (A 13) (A 16) (A 15) p q r1)), .int ((-1) * (dt (A 16) (A 14) (A 15) p q r1)), .ref 12]) (M2 := (A, G, PF)) (hs2 := []) (C := True) [(.aload_n 0, 0, 0), (.iload 7, 0, 0), (.iload 8, 0, 0), (.iload 9, 0, 0), (.iload 6, 0, 0)] [] (by decide +kernel) rfl trivial ?_
            refine go_call (Y2 := mX3_keep) (n2 := 27) (st := []) [.ref 12] [.int ((-1) * (dt (A 16) (A 14) (A 15) p q r1)), .int ((-1) * (dt (A 13) (A 16) (A 15) p q r1)), .int ((-1) * (dt (A 13) (A 14) (A 16) p q r1)), .int ((-1) * (dt (A 13) (A 14) (A 15) p q r1))] ck_3_70 cwX3_keep rfl (by decide +kernel) rfl (fun h => absurd h (by decide)) (fun _ => ⟨12, rfl, by decide, rfl⟩) (Nat.le_of_ble_eq_true rfl) (Or.inl rfl) (fun _ _ _ h => h) (s_X3_keep l A G ((-1) * (dt (A 16) (A 14) (A 15) p q r1)) ((-1) * (dt (A 13) (A 16) (A 15) p q r1)) ((-1) * (dt (A 13) (A 14) (A 16) p q r1)) ((-1) * (dt (A 13) (A 14) (A 15) p q r1)) cnt hc hlt) (fun v M2 hp23 => ?_)
            obtain ⟨rfl, rfl⟩ := hp23
            show Go l ro0 mX3_meet 27 ((kp A cnt ((-1) * (dt (A 16) (A 14) (A 15) p q r1)) ((-1) * (dt (A 13) (A 16) (A 15) p q r1)) ((-1) * (dt (A 13) (A 14) (A 16) p q r1)) ((-1) * (dt (A 13) (A 14) (A 15) p q r1))), G, PF) 163 [.ref 12, .int (nI p), .int (nI q), .int (nI r1), .int (dt (A 13) (A 14) (A 15) p q r1), .int (-1), .int ((-1) * (dt (A 13) (A 14) (A 15) p q r1)), .int ((-1) * (dt (A 16) (A 14) (A 15) p q r1)), .int ((-1) * (dt (A 13) (A 16) (A 15) p q r1)), .int ((-1) * (dt (A 13) (A 14) (A 16) p q r1)), .int (20 * ((-1) * (dt (A 13) (A 14) (A 15) p q r1)))] [] 27 _
            exact go_retv (by decide +kernel) rfl (⟨rfl, Or.inl ⟨by unfold InB cx cy cz cw; rw [hsg]; exact ⟨by assumption, by assumption, by assumption, by assumption⟩, by unfold cx cy cz cw; rw [hsg]; rfl⟩⟩)
          · rw [bi_f hb22]
            show Go l ro0 mX3_meet 27 (A, G, PF) 148 [.ref 12, .int (nI p), .int (nI q), .int (nI r1), .int (dt (A 13) (A 14) (A 15) p q r1), .int (-1), .int ((-1) * (dt (A 13) (A 14) (A 15) p q r1)), .int ((-1) * (dt (A 16) (A 14) (A 15) p q r1)), .int ((-1) * (dt (A 13) (A 16) (A 15) p q r1)), .int ((-1) * (dt (A 13) (A 14) (A 16) p q r1)), .int (20 * ((-1) * (dt (A 13) (A 14) (A 15) p q r1)))] [.int 0] 27 _
            refine go_ifz (cnd := .eq) (off := 15) 163 (by decide +kernel) (by decide) (fun _ => ?_) (fun (h : ¬ (0 : Int32) = 0) => absurd h (by decide))
            exact go_retv (by decide +kernel) rfl (⟨rfl, Or.inr ⟨by unfold InB cx cy cz cw; rw [hsg]; intro q; first | exact absurd q.2.1 (by assumption) | exact absurd q.2.2.1 (by assumption) | exact absurd q.2.2.2 (by assumption), rfl⟩⟩)
        · rw [bi_f hb20]
          show Go l ro0 mX3_meet 27 (A, G, PF) 138 [.ref 12, .int (nI p), .int (nI q), .int (nI r1), .int (dt (A 13) (A 14) (A 15) p q r1), .int (-1), .int ((-1) * (dt (A 13) (A 14) (A 15) p q r1)), .int ((-1) * (dt (A 16) (A 14) (A 15) p q r1)), .int ((-1) * (dt (A 13) (A 16) (A 15) p q r1)), .int ((-1) * (dt (A 13) (A 14) (A 16) p q r1)), .int (20 * ((-1) * (dt (A 13) (A 14) (A 15) p q r1)))] [.int 0] 27 _
          refine go_ifz (cnd := .eq) (off := 25) 163 (by decide +kernel) (by decide) (fun _ => ?_) (fun (h : ¬ (0 : Int32) = 0) => absurd h (by decide))
          exact go_retv (by decide +kernel) rfl (⟨rfl, Or.inr ⟨by unfold InB cx cy cz cw; rw [hsg]; intro q; first | exact absurd q.2.1 (by assumption) | exact absurd q.2.2.1 (by assumption) | exact absurd q.2.2.2 (by assumption), rfl⟩⟩)
      · rw [bi_f hb18]
        show Go l ro0 mX3_meet 27 (A, G, PF) 128 [.ref 12, .int (nI p), .int (nI q), .int (nI r1), .int (dt (A 13) (A 14) (A 15) p q r1), .int (-1), .int ((-1) * (dt (A 13) (A 14) (A 15) p q r1)), .int ((-1) * (dt (A 16) (A 14) (A 15) p q r1)), .int ((-1) * (dt (A 13) (A 16) (A 15) p q r1)), .int ((-1) * (dt (A 13) (A 14) (A 16) p q r1)), .int (20 * ((-1) * (dt (A 13) (A 14) (A 15) p q r1)))] [.int 0] 27 _
        refine go_ifz (cnd := .eq) (off := 35) 163 (by decide +kernel) (by decide) (fun _ => ?_) (fun (h : ¬ (0 : Int32) = 0) => absurd h (by decide))
        exact go_retv (by decide +kernel) rfl (⟨rfl, Or.inr ⟨by unfold InB cx cy cz cw; rw [hsg]; intro q; first | exact absurd q.2.1 (by assumption) | exact absurd q.2.2.1 (by assumption) | exact absurd q.2.2.2 (by assumption), rfl⟩⟩)
  · skip
    exact go_retv (by decide +kernel) rfl (⟨rfl, Or.inr ⟨fun q => q.1 (by assumption), rfl⟩⟩)
end
section
/-- the atoms' planes, copied ahead of the others -/
def cpy (A : Nat → Nat → Int32) : Nat → (Nat → Nat → Int32)
  | 0 => A
  | k + 1 => u2 (u2 (u2 (u2 (cpy A k) 13 k (A 3 k)) 14 k (A 4 k)) 15 k (A 5 k)) 16 k (A 6 k)
theorem cpy_o {A : Nat → Nat → Int32} {o : Nat} (h : o ≠ 13 ∧ o ≠ 14 ∧ o ≠ 15 ∧ o ≠ 16) (k : Nat) : cpy A k o = A o := by
  induction k with
  | zero => rfl
  | succ k ih =>
    funext j
    simp only [cpy]
    rw [u2_o h.2.2.2, u2_o h.2.2.1, u2_o h.2.1, u2_o h.1, ih]
def tri : Nat → Nat
  | 0 => 0
  | k + 1 => tri k + k
def tet : Nat → Nat
  | 0 => 0
  | k + 1 => tet k + tri k
theorem tri_s (k : Nat) (h : 0 < k) : tri k = tri (k - 1) + (k - 1) := by
  cases k with
  | zero => omega
  | succ k => rfl
theorem tet_s (k : Nat) (h : 0 < k) : tet k = tet (k - 1) + tri (k - 1) := by
  cases k with
  | zero => omega
  | succ k => rfl
/-- the n-th corner is that of the planes p, q, r -/
def AtC (B A : Nat → Nat → Int32) (n p q r : Nat) : Prop := A 17 n = cx B p q r ∧ A 18 n = cy B p q r ∧ A 19 n = cz B p q r ∧ A 20 n = cw B p q r ∧ A 21 n = fsd B (cx B p q r) (cy B p q r) (cz B p q r) (cw B p q r) 8
/-- the corners' rows hold just the corners of the triples T of the planes of B; all else is as in B -/
def CI (T : Nat → Nat → Nat → Prop) (B A : Nat → Nat → Int32) (cnt : Nat) : Prop :=
  (∀ o, (o < 17 ∨ 21 < o) → o ≠ 12 → A o = B o) ∧ (∀ k, k ≠ 9 → A 12 k = B 12 k) ∧ A 12 9 = nI cnt ∧ (∀ p q r, T p q r → InB B p q r → ∃ n, n < cnt ∧ AtC B A n p q r) ∧ ∀ n, n < cnt → ∃ p q r, T p q r ∧ InB B p q r ∧ AtC B A n p q r
theorem CI.congr {T T2 : Nat → Nat → Nat → Prop} {B A : Nat → Nat → Int32} {cnt : Nat} (h : CI T B A cnt) (hT : ∀ p q r, T p q r ↔ T2 p q r) : CI T2 B A cnt :=
  ⟨h.1, h.2.1, h.2.2.1, fun p q r ht => h.2.2.2.1 p q r ((hT p q r).mpr ht), fun n hn => by
    obtain ⟨p, q, r, h1, h2⟩ := h.2.2.2.2 n hn
    exact ⟨p, q, r, (hT p q r).mp h1, h2⟩⟩
theorem CI.rows {T : Nat → Nat → Nat → Prop} {B A : Nat → Nat → Int32} {cnt : Nat} (h : CI T B A cnt) (p q r : Nat) : (D0 A p q r = D0 B p q r ∧ cx A p q r = cx B p q r ∧ cy A p q r = cy B p q r ∧ cz A p q r = cz B p q r ∧ cw A p q r = cw B p q r) ∧ (InB A p q r ↔ InB B p q r) ∧ ∀ x y z w t, fsd A x y z w t = fsd B x y z w t := by
  have h13 := h.1 13 (by omega) (by omega)
  have h14 := h.1 14 (by omega) (by omega)
  have h15 := h.1 15 (by omega) (by omega)
  have h16 := h.1 16 (by omega) (by omega)
  have e0 : D0 A p q r = D0 B p q r := by unfold D0; rw [h13, h14, h15]
  have e1 : cx A p q r = cx B p q r := by unfold cx; rw [e0, h14, h15, h16]
  have e2 : cy A p q r = cy B p q r := by unfold cy; rw [e0, h13, h15, h16]
  have e3 : cz A p q r = cz B p q r := by unfold cz; rw [e0, h13, h14, h16]
  have e4 : cw A p q r = cw B p q r := by unfold cw; rw [e0]
  exact ⟨⟨e0, e1, e2, e3, e4⟩, by unfold InB; rw [e0, e1, e2, e3, e4], fsd_c h13 h14 h15 h16⟩
theorem kp_get {A : Nat → Nat → Int32} {cnt : Nat} {x y z w : Int32} : kp A cnt x y z w 17 cnt = x ∧ kp A cnt x y z w 18 cnt = y ∧ kp A cnt x y z w 19 cnt = z ∧ kp A cnt x y z w 20 cnt = w ∧ kp A cnt x y z w 21 cnt = fsd A x y z w 8 ∧ kp A cnt x y z w 12 9 = A 12 9 + 1 := by
  refine ⟨?_, ?_, ?_, ?_, ?_, ?_⟩ <;> simp [kp, u2]
theorem kp_old {A : Nat → Nat → Int32} {cnt : Nat} {x y z w : Int32} {o k : Nat} (h : (o < 17 ∨ 21 < o) ∧ o ≠ 12 ∨ o = 12 ∧ k ≠ 9 ∨ (17 ≤ o ∧ o ≤ 21) ∧ k ≠ cnt) : kp A cnt x y z w o k = A o k := by
  unfold kp u2
  repeat (first | rw [if_neg (by omega)])
theorem CI.add {T : Nat → Nat → Nat → Prop} {B A : Nat → Nat → Int32} {cnt p q r : Nat} (h : CI T B A cnt) (hi : InB B p q r) : CI (fun p2 q2 r2 => T p2 q2 r2 ∨ (p2 = p ∧ q2 = q ∧ r2 = r)) B (kp A cnt (cx A p q r) (cy A p q r) (cz A p q r) (cw A p q r)) (cnt + 1) := by
  obtain ⟨⟨e0, e1, e2, e3, e4⟩, ei, ef⟩ := h.rows p q r
  obtain ⟨k1, k2, k3, k4, k5, k6⟩ := kp_get (A := A) (cnt := cnt) (x := cx A p q r) (y := cy A p q r) (z := cz A p q r) (w := cw A p q r)
  have hnew : AtC B (kp A cnt (cx A p q r) (cy A p q r) (cz A p q r) (cw A p q r)) cnt p q r := by
    refine ⟨by rw [k1, e1], by rw [k2, e2], by rw [k3, e3], by rw [k4, e4], ?_⟩
    rw [k5, ef, e1, e2, e3, e4]
  have hold : ∀ n p2 q2 r2, n < cnt → AtC B A n p2 q2 r2 → AtC B (kp A cnt (cx A p q r) (cy A p q r) (cz A p q r) (cw A p q r)) n p2 q2 r2 := by
    intro n p2 q2 r2 hn hat
    refine ⟨?_, ?_, ?_, ?_, ?_⟩
    · rw [kp_old (by omega)]; exact hat.1
    · rw [kp_old (by omega)]; exact hat.2.1
    · rw [kp_old (by omega)]; exact hat.2.2.1
    · rw [kp_old (by omega)]; exact hat.2.2.2.1
    · rw [kp_old (by omega)]; exact hat.2.2.2.2
  refine ⟨fun o ho ho2 => ?_, fun k hk => ?_, ?_, fun p2 q2 r2 ht hin => ?_, fun n hn => ?_⟩
  · funext k
    rw [kp_old (by omega), h.1 o ho ho2]
  · rw [kp_old (by omega), h.2.1 k hk]
  · rw [k6, h.2.2.1, nI_1]
  · rcases ht with ht | ⟨rfl, rfl, rfl⟩
    · obtain ⟨n, h1, h2⟩ := h.2.2.2.1 p2 q2 r2 ht hin
      exact ⟨n, by omega, hold n p2 q2 r2 h1 h2⟩
    · exact ⟨cnt, by omega, hnew⟩
  · by_cases e : n = cnt
    · subst e
      exact ⟨p, q, r, Or.inr ⟨rfl, rfl, rfl⟩, hi, hnew⟩
    · obtain ⟨p2, q2, r2, h1, h2, h3⟩ := h.2.2.2.2 n (by omega)
      exact ⟨p2, q2, r2, Or.inl h1, h2, hold n p2 q2 r2 (by omega) h3⟩
theorem CI.skip {T : Nat → Nat → Nat → Prop} {B A : Nat → Nat → Int32} {cnt p q r : Nat} (h : CI T B A cnt) (hi : ¬ InB B p q r) : CI (fun p2 q2 r2 => T p2 q2 r2 ∨ (p2 = p ∧ q2 = q ∧ r2 = r)) B A cnt := by
  refine ⟨h.1, h.2.1, h.2.2.1, fun p2 q2 r2 ht hin => ?_, fun n hn => ?_⟩
  · rcases ht with ht | ⟨rfl, rfl, rfl⟩
    · exact h.2.2.2.1 p2 q2 r2 ht hin
    · exact absurd hin hi
  · obtain ⟨p2, q2, r2, h1, h2⟩ := h.2.2.2.2 n hn
    exact ⟨p2, q2, r2, Or.inl h1, h2⟩
/-- the triples ahead of p, q, r -/
def LT3 (p q r : Nat) : Nat → Nat → Nat → Prop := fun p2 q2 r2 => (p2 < q2 ∧ q2 < r2 ∧ r2 < 14) ∧ (p2 < p ∨ p2 = p ∧ (q2 < q ∨ q2 = q ∧ r2 < r))

set_option maxRecDepth 100000 in
set_option maxHeartbeats 4000000 in
theorem lr_X3_rebuild (l : Launch) (A : Nat → Nat → Int32) (G : Nat → Nat → Int64) (B0 : Nat → Nat → Int32) (p q : Nat) (hp : p < 14) (hq : q < 14) (hpq : p < q) (hout : ∀ A2 cnt, CI (LT3 p (q + 1) 0) B0 A2 cnt → cnt + tet (13 - p) + tri (13 - q) ≤ 364 → ∀ j : Value, Go l ro0 mX3_rebuild 27 (A2, G, PF) 78 [.ref 12, .ref 1, .int (nI p), .int (nI (q + 1)), j] [] 27 (fun r M2 => r = none ∧ ∃ A2 cnt, M2 = (A2, G, PF) ∧ cnt ≤ 364 ∧ CI (LT3 14 0 0) B0 A2 cnt)) : ∀ r, r ≤ 14 → ∀ A2 cnt, CI (LT3 p q r) B0 A2 cnt → cnt + tet (13 - p) + tri (13 - q) + (14 - r) ≤ 364 → q < r → Go l ro0 mX3_rebuild 27 (A2, G, PF) 89 [.ref 12, .ref 1, .int (nI p), .int (nI q), .int (nI r)] [] 27 (fun r M2 => r = none ∧ ∃ A2 cnt, M2 = (A2, G, PF) ∧ cnt ≤ 364 ∧ CI (LT3 14 0 0) B0 A2 cnt) := by
  refine down 14 (fun r hr ih A2 cnt hCI hb hqr => ?_)
  refine go_blk (pc2 := 93) (L2 := [.ref 12, .ref 1, .int (nI p), .int (nI q), .int (nI r)]) (st2 := [.int 14, .int (nI r)]) (M2 := (A2, G, PF)) (hs2 := []) (C := True) [(.iload 4, 0, 0), (.bipush 14, 0, 0)] [] (by decide +kernel) rfl trivial ?_
  refine go_cmp (cnd := .ge) (off := 17) 110 (by decide +kernel) (by decide) (fun (c1 : 14 ≤ (nI r)) => ?_) (fun (c1 : ¬ 14 ≤ (nI r)) => ?_)
  · skip
    replace c1 : 14 ≤ r := (nx_le (a := 14) (b := r) rfl rfl (by omega) (by omega)).mp c1
    refine go_blk (pc2 := 113) (L2 := [.ref 12, .ref 1, .int (nI p), .int ((nI q) + 1), .int (nI r)]) (st2 := []) (M2 := (A2, G, PF)) (hs2 := []) (C := True) [(.iinc 3 1, 0, 0)] [] (by decide +kernel) rfl trivial ?_
    refine go_goto (off := -35) 78 (by decide +kernel) (by decide) ?_
    exact go_as (hout A2 cnt (hCI.congr (fun p2 q2 r2 => by unfold LT3; omega)) (by omega) (.int (nI r))) rfl (by simp only [nI_1]) rfl
  · skip
    replace c1 : ¬ 14 ≤ r := fun zz => c1 ((nx_le (a := 14) (b := r) rfl rfl (by omega) (by omega)).mpr zz)
    refine go_blk (pc2 := 101) (L2 := [.ref 12, .ref 1, .int (nI p), .int (nI q), .int (nI r)]) (st2 := [.int (nI r), .int (nI q), .int (nI p), .ref 12]) (M2 := (A2, G, PF)) (hs2 := []) (C := True) [(.aload_n 0, 0, 0), (.iload_n 2, 0, 0), (.iload_n 3, 0, 0), (.iload 4, 0, 0)] [] (by decide +kernel) rfl trivial ?_
    refine go_call (Y2 := mX3_meet) (n2 := 27) (st := []) [.ref 12] [.int (nI p), .int (nI q), .int (nI r)] ck_3_59 cwX3_meet rfl (by decide +kernel) rfl (fun h => absurd h (by decide)) (fun _ => ⟨12, rfl, by decide, rfl⟩) (Nat.le_of_ble_eq_true rfl) (Or.inl rfl) (fun _ _ _ h => h) (s_X3_meet l A2 G p q r (by omega) (by omega) (by omega) cnt hCI.2.2.1 (by omega)) (fun v M2 hp2 => ?_)
    obtain ⟨rfl, ⟨hi, rfl⟩ | ⟨hi, rfl⟩⟩ := hp2
    · show Go l ro0 mX3_rebuild 27 ((kp A2 cnt (cx A2 p q r) (cy A2 p q r) (cz A2 p q r) (cw A2 p q r)), G, PF) 104 [.ref 12, .ref 1, .int (nI p), .int (nI q), .int (nI r)] [] 27 _
      refine go_blk (pc2 := 107) (L2 := [.ref 12, .ref 1, .int (nI p), .int (nI q), .int ((nI r) + 1)]) (st2 := []) (M2 := ((kp A2 cnt (cx A2 p q r) (cy A2 p q r) (cz A2 p q r) (cw A2 p q r)), G, PF)) (hs2 := []) (C := True) [(.iinc 4 1, 0, 0)] [] (by decide +kernel) rfl trivial ?_
      refine go_goto (off := -18) 89 (by decide +kernel) (by decide) ?_
      exact go_as (ih (by omega) _ (cnt + 1) (((hCI.add ((hCI.rows p q r).2.1.mp hi)).congr (fun p2 q2 r2 => by unfold LT3; omega))) (by omega) (by omega)) rfl (by simp only [nI_1]) rfl
    · show Go l ro0 mX3_rebuild 27 (A2, G, PF) 104 [.ref 12, .ref 1, .int (nI p), .int (nI q), .int (nI r)] [] 27 _
      refine go_blk (pc2 := 107) (L2 := [.ref 12, .ref 1, .int (nI p), .int (nI q), .int ((nI r) + 1)]) (st2 := []) (M2 := (A2, G, PF)) (hs2 := []) (C := True) [(.iinc 4 1, 0, 0)] [] (by decide +kernel) rfl trivial ?_
      refine go_goto (off := -18) 89 (by decide +kernel) (by decide) ?_
      exact go_as (ih (by omega) A2 cnt (((hCI.skip (fun z => hi ((hCI.rows p q r).2.1.mpr z))).congr (fun p2 q2 r2 => by unfold LT3; omega))) (by omega) (by omega)) rfl (by simp only [nI_1]) rfl
set_option maxRecDepth 100000 in
set_option maxHeartbeats 4000000 in
theorem lq_X3_rebuild (l : Launch) (A : Nat → Nat → Int32) (G : Nat → Nat → Int64) (B0 : Nat → Nat → Int32) (p : Nat) (hp : p < 14) (hout : ∀ A2 cnt, CI (LT3 (p + 1) 0 0) B0 A2 cnt → cnt + tet (13 - p) ≤ 364 → ∀ j1 j2 : Value, Go l ro0 mX3_rebuild 27 (A2, G, PF) 68 [.ref 12, .ref 1, .int (nI (p + 1)), j1, j2] [] 27 (fun r M2 => r = none ∧ ∃ A2 cnt, M2 = (A2, G, PF) ∧ cnt ≤ 364 ∧ CI (LT3 14 0 0) B0 A2 cnt)) : ∀ q, q ≤ 14 → ∀ A2 cnt, CI (LT3 p q 0) B0 A2 cnt → cnt + tet (13 - p) + tri (14 - q) ≤ 364 → p < q → ∀ j : Value, Go l ro0 mX3_rebuild 27 (A2, G, PF) 78 [.ref 12, .ref 1, .int (nI p), .int (nI q), j] [] 27 (fun r M2 => r = none ∧ ∃ A2 cnt, M2 = (A2, G, PF) ∧ cnt ≤ 364 ∧ CI (LT3 14 0 0) B0 A2 cnt) := by
  refine down 14 (fun q hq ih A2 cnt hCI hb hpq j => ?_)
  refine go_blk (pc2 := 81) (L2 := [.ref 12, .ref 1, .int (nI p), .int (nI q), j]) (st2 := [.int 14, .int (nI q)]) (M2 := (A2, G, PF)) (hs2 := []) (C := True) [(.iload_n 3, 0, 0), (.bipush 14, 0, 0)] [] (by decide +kernel) rfl trivial ?_
  refine go_cmp (cnd := .ge) (off := 35) 116 (by decide +kernel) (by decide) (fun (c1 : 14 ≤ (nI q)) => ?_) (fun (c1 : ¬ 14 ≤ (nI q)) => ?_)
  · skip
    replace c1 : 14 ≤ q := (nx_le (a := 14) (b := q) rfl rfl (by omega) (by omega)).mp c1
    refine go_blk (pc2 := 119) (L2 := [.ref 12, .ref 1, .int ((nI p) + 1), .int (nI q), j]) (st2 := []) (M2 := (A2, G, PF)) (hs2 := []) (C := True) [(.iinc 2 1, 0, 0)] [] (by decide +kernel) rfl trivial ?_
    refine go_goto (off := -51) 68 (by decide +kernel) (by decide) ?_
    exact go_as (hout A2 cnt (hCI.congr (fun p2 q2 r2 => by unfold LT3; omega)) (by omega) (.int (nI q)) (j)) rfl (by simp only [nI_1]) rfl
  · skip
    replace c1 : ¬ 14 ≤ q := fun zz => c1 ((nx_le (a := 14) (b := q) rfl rfl (by omega) (by omega)).mpr zz)
    refine go_blk (pc2 := 89) (L2 := [.ref 12, .ref 1, .int (nI p), .int (nI q), .int ((nI q) + 1)]) (st2 := []) (M2 := (A2, G, PF)) (hs2 := []) (C := True) [(.iload_n 3, 0, 0), (.iconst 1, 0, 0), (.iadd, 0, 0), (.istore 4, 0, 0)] [] (by decide +kernel) rfl trivial ?_
    exact go_as (lr_X3_rebuild l A G B0 p q (by omega) (by omega) (by omega) (fun A3 c3 h3 h4 j3 => ih (by omega) A3 c3 h3 (by rw [show 14 - (q + 1) = 13 - q by omega]; exact h4) (by omega) j3) (q + 1) (by omega) A2 cnt (hCI.congr (fun p2 q2 r2 => by unfold LT3; omega)) (by have := tri_s (14 - q) (by omega); rw [show 14 - q - 1 = 13 - q by omega] at this; omega) (by omega)) rfl (by simp only [nI_1]) rfl
set_option maxRecDepth 100000 in
set_option maxHeartbeats 4000000 in
theorem lp_X3_rebuild (l : Launch) (A : Nat → Nat → Int32) (G : Nat → Nat → Int64) (B0 : Nat → Nat → Int32) : ∀ p, p ≤ 14 → ∀ A2 cnt, CI (LT3 p 0 0) B0 A2 cnt → cnt + tet (14 - p) ≤ 364 → ∀ j1 j2 : Value, Go l ro0 mX3_rebuild 27 (A2, G, PF) 68 [.ref 12, .ref 1, .int (nI p), j1, j2] [] 27 (fun r M2 => r = none ∧ ∃ A2 cnt, M2 = (A2, G, PF) ∧ cnt ≤ 364 ∧ CI (LT3 14 0 0) B0 A2 cnt) := by
  refine down 14 (fun p hp ih A2 cnt hCI hb j1 j2 => ?_)
  refine go_blk (pc2 := 71) (L2 := [.ref 12, .ref 1, .int (nI p), j1, j2]) (st2 := [.int 14, .int (nI p)]) (M2 := (A2, G, PF)) (hs2 := []) (C := True) [(.iload_n 2, 0, 0), (.bipush 14, 0, 0)] [] (by decide +kernel) rfl trivial ?_
  refine go_cmp (cnd := .ge) (off := 51) 122 (by decide +kernel) (by decide) (fun (c1 : 14 ≤ (nI p)) => ?_) (fun (c1 : ¬ 14 ≤ (nI p)) => ?_)
  · skip
    replace c1 : 14 ≤ p := (nx_le (a := 14) (b := p) rfl rfl (by omega) (by omega)).mp c1
    exact go_retv (by decide +kernel) rfl (⟨rfl, A2, cnt, rfl, by omega, hCI.congr (fun p2 q2 r2 => by unfold LT3; omega)⟩)
  · skip
    replace c1 : ¬ 14 ≤ p := fun zz => c1 ((nx_le (a := 14) (b := p) rfl rfl (by omega) (by omega)).mpr zz)
    refine go_blk (pc2 := 78) (L2 := [.ref 12, .ref 1, .int (nI p), .int ((nI p) + 1), j2]) (st2 := []) (M2 := (A2, G, PF)) (hs2 := []) (C := True) [(.iload_n 2, 0, 0), (.iconst 1, 0, 0), (.iadd, 0, 0), (.istore_n 3, 0, 0)] [] (by decide +kernel) rfl trivial ?_
    exact go_as (lq_X3_rebuild l A G B0 p (by omega) (fun A3 c3 h3 h4 j1 j2 => ih (by omega) A3 c3 h3 (by rw [show 14 - (p + 1) = 13 - p by omega]; exact h4) j1 j2) (p + 1) (by omega) A2 cnt (hCI.congr (fun p2 q2 r2 => by unfold LT3; omega)) (by have := tet_s (14 - p) (by omega); rw [show 14 - p - 1 = 13 - p by omega] at this; rw [show 14 - (p + 1) = 13 - p by omega]; omega) (by omega) (j2)) rfl (by simp only [nI_1]) rfl
set_option maxRecDepth 100000 in
set_option maxHeartbeats 4000000 in
theorem lc_X3_rebuild (l : Launch) (A : Nat → Nat → Int32) (G : Nat → Nat → Int64) : ∀ k, k ≤ 5 → ∀ j1 j2 : Value, Go l ro0 mX3_rebuild 27 (cpy A k, G, PF) 2 [.ref 12, .ref 1, .int (nI k), j1, j2] [] 27 (fun r M2 => r = none ∧ ∃ A2 cnt, M2 = (A2, G, PF) ∧ cnt ≤ 364 ∧ CI (LT3 14 0 0) (u2 (cpy A 5) 12 9 0) A2 cnt) := by
  refine down 5 (fun k hk ih j1 j2 => ?_)
  refine go_blk (pc2 := 4) (L2 := [.ref 12, .ref 1, .int (nI k), j1, j2]) (st2 := [.int 5, .int (nI k)]) (M2 := ((cpy A k), G, PF)) (hs2 := []) (C := True) [(.iload_n 2, 0, 0), (.iconst 5, 0, 0)] [] (by decide +kernel) rfl trivial ?_
  refine go_cmp (cnd := .ge) (off := 57) 61 (by decide +kernel) (by decide) (fun (c1 : 5 ≤ (nI k)) => ?_) (fun (c1 : ¬ 5 ≤ (nI k)) => ?_)
  · skip
    replace c1 : 5 ≤ k := (nx_le (a := 5) (b := k) rfl rfl (by omega) (by omega)).mp c1
    refine go_blk (pc2 := 68) (L2 := [.ref 12, .ref 1, .int 0, j1, j2]) (st2 := []) (M2 := ((u2 (cpy A k) 12 9 0), G, PF)) (hs2 := []) (C := True) [(.aload_n 0, 0, 0), (.iconst 0, 0, 0), (.putfield 39, 3, 9), (.iconst 0, 0, 0), (.istore_n 2, 0, 0)] [] (by decide +kernel) rfl trivial ?_
    exact go_as (lp_X3_rebuild l A G (u2 (cpy A 5) 12 9 0) 0 (by omega) _ 0 ⟨fun _ _ _ => rfl, fun _ _ => rfl, rfl, fun p2 q2 r2 h => absurd h (by unfold LT3; omega), fun n hn => absurd hn (by omega)⟩ (by decide) (j1) (j2)) (by rw [show k = 5 by omega]) rfl rfl
  · skip
    replace c1 : ¬ 5 ≤ k := fun zz => c1 ((nx_le (a := 5) (b := k) rfl rfl (by omega) (by omega)).mpr zz)
    refine go_blk (pc2 := 58) (L2 := [.ref 12, .ref 1, .int ((nI k) + 1), j1, j2]) (st2 := []) (M2 := ((u2 (u2 (u2 (u2 (cpy A k) 13 k ((cpy A k) 3 k)) 14 k ((cpy A k) 4 k)) 15 k ((cpy A k) 5 k)) 16 k ((cpy A k) 6 k)), G, PF)) (hs2 := []) (C := ((nI k) = nI k ∧ k < 5) ∧ ((nI k) = nI k ∧ k < 14) ∧ ((nI k) = nI k ∧ k < 5) ∧ ((nI k) = nI k ∧ k < 14) ∧ ((nI k) = nI k ∧ k < 5) ∧ ((nI k) = nI k ∧ k < 14) ∧ ((nI k) = nI k ∧ k < 5) ∧ ((nI k) = nI k ∧ k < 14) ∧ True) [(.aload_n 0, 0, 0), (.getfield 11, 3, 0), (.iload_n 2, 0, 0), (.aload_n 1, 0, 0), (.getfield 53, 0, 1), (.iload_n 2, 0, 0), (.iaload, 0, 0), (.iastore, 0, 0), (.aload_n 0, 0, 0), (.getfield 15, 3, 1), (.iload_n 2, 0, 0), (.aload_n 1, 0, 0), (.getfield 56, 0, 2), (.iload_n 2, 0, 0), (.iaload, 0, 0), (.iastore, 0, 0), (.aload_n 0, 0, 0), (.getfield 18, 3, 2), (.iload_n 2, 0, 0), (.aload_n 1, 0, 0), (.getfield 57, 0, 3), (.iload_n 2, 0, 0), (.iaload, 0, 0), (.iastore, 0, 0), (.aload_n 0, 0, 0), (.getfield 21, 3, 3), (.iload_n 2, 0, 0), (.aload_n 1, 0, 0), (.getfield 58, 0, 4), (.iload_n 2, 0, 0), (.iaload, 0, 0), (.iastore, 0, 0), (.iinc 2 1, 0, 0)] [k, k, k, k, k, k, k, k] (by decide +kernel) rfl ⟨⟨rfl, by omega⟩, ⟨rfl, by omega⟩, ⟨rfl, by omega⟩, ⟨rfl, by omega⟩, ⟨rfl, by omega⟩, ⟨rfl, by omega⟩, ⟨rfl, by omega⟩, ⟨rfl, by omega⟩, trivial⟩ ?_
    refine go_goto (off := -56) 2 (by decide +kernel) (by decide) ?_
    exact go_as (ih (by omega) j1 j2) (by simp only [cpy]; congr 1; simp only [cpy_o (A := A) (o := 3) (by omega) k, cpy_o (A := A) (o := 4) (by omega) k, cpy_o (A := A) (o := 5) (by omega) k, cpy_o (A := A) (o := 6) (by omega) k]) (by simp only [nI_1]) rfl
set_option maxRecDepth 100000 in
set_option maxHeartbeats 4000000 in
theorem s_X3_rebuild (l : Launch) (A : Nat → Nat → Int32) (G : Nat → Nat → Int64) : Sem l mX3_rebuild [.ref 12, .ref 1] 27 (A, G, PF) 27 (fun r M2 => r = none ∧ ∃ A2 cnt, M2 = (A2, G, PF) ∧ cnt ≤ 364 ∧ CI (LT3 14 0 0) (u2 (cpy A 5) 12 9 0) A2 cnt) := by
  refine sem_of_go (by decide) rfl (by decide) (by decide) rfl (Nat.le_of_ble_eq_true rfl) ?_
  show Go l ro0 mX3_rebuild 27 (A, G, PF) 0 [.ref 12, .ref 1, .null, .null, .null] [] 27 (fun r M2 => r = none ∧ ∃ A2 cnt, M2 = (A2, G, PF) ∧ cnt ≤ 364 ∧ CI (LT3 14 0 0) (u2 (cpy A 5) 12 9 0) A2 cnt)
  refine go_blk (pc2 := 2) (L2 := [.ref 12, .ref 1, .int 0, .null, .null]) (st2 := []) (M2 := (A, G, PF)) (hs2 := []) (C := True) [(.iconst 0, 0, 0), (.istore_n 2, 0, 0)] [] (by decide +kernel) rfl trivial ?_
  exact lc_X3_rebuild l A G 0 (by omega) _ _
end
section
theorem snd_c {A A2 : Nat → Nat → Int32} (h : A2 2 = A 2) (s k : Nat) : snd A2 s k = snd A s k := by
  induction k with
  | zero => rfl
  | succ k ih => simp only [snd, h, ih]
theorem ssg_c {A A2 : Nat → Nat → Int32} (h : A2 2 = A 2) (s k : Nat) : ssg A2 s k = ssg A s k := by
  induction k with
  | zero => rfl
  | succ k ih => simp only [ssg, h, ih]
theorem HasF_c {A A2 : Nat → Nat → Int32} (h2 : A2 2 = A 2) (h7 : A2 7 = A 7) (h8 : A2 8 = A 8) (s p : Nat) : HasF A2 s p = HasF A s p := by
  simp only [HasF, Contr, fi, fj, h2, h7, h8]
theorem FOk_c {A A2 : Nat → Nat → Int32} (h2 : A2 2 = A 2) (h7 : A2 7 = A 7) (h8 : A2 8 = A 8) (h : FOk A) : FOk A2 := by
  simpa only [FOk, fi, fj, h2, h7, h8] using h
theorem HavP_c {A A2 : Nat → Nat → Int32} (h : A2 21 = A 21) (nd sg : Int32) (cnt : Nat) : HavP A2 nd sg cnt = HavP A nd sg cnt := by
  have ef : ∀ k, fit A2 nd k = fit A nd k := fun k => by simp only [fit, h]
  have e1 : ∀ k, anyf A2 nd k = anyf A nd k := by
    intro k
    induction k with
    | zero => rfl
    | succ k ih =>
      rcases Classical.em (fit A nd k) with q | q
      · rw [anyf_t q, anyf_t (by rw [ef k]; exact q)]
      · rw [anyf_f q, anyf_f (by rw [ef k]; exact q), ih]
  have e2 : ∀ k, mis A2 nd sg k = mis A nd sg k := by
    intro k
    induction k with
    | zero => rfl
    | succ k ih =>
      rcases Classical.em (fit A nd k) with q | q
      · rw [mis_t q, mis_t (by rw [ef k]; exact q), ih, h]
      · rw [mis_f q, mis_f (by rw [ef k]; exact q), ih]
  simp only [HavP, e1, e2]
noncomputable def ndc (A : Nat → Nat → Int32) (s p : Nat) : Int32 := snd A s 5 ||| pnd p 3
noncomputable def sgc (A : Nat → Nat → Int32) (s p : Nat) : Int32 := ssg A s 5 ||| psg p 3
def Opn (A : Nat → Nat → Int32) (s p cnt : Nat) : Prop := HasF A s p ∧ HavP A (ndc A s p) (sgc A s p) cnt
noncomputable def cel (A : Nat → Nat → Int32) (s p cnt : Nat) : Nat → Nat → Int32 := u2 (u2 (u2 A 24 (s * 5 + p) (ndc A s p)) 25 (s * 5 + p) (sgc A s p)) 23 (s * 5 + p) (bi (Opn A s p cnt))
def CellI (A A2 : Nat → Nat → Int32) (cnt m : Nat) : Prop := (∀ o, o ≠ 23 → o ≠ 24 → o ≠ 25 → A2 o = A o) ∧ ∀ s p, p < 5 → s * 5 + p < m → A2 24 (s * 5 + p) = ndc A s p ∧ A2 25 (s * 5 + p) = sgc A s p ∧ A2 23 (s * 5 + p) = bi (Opn A s p cnt)
theorem CellI.cgr {A A2 : Nat → Nat → Int32} {cnt m : Nat} (h : CellI A A2 cnt m) (s p : Nat) : ndc A2 s p = ndc A s p ∧ sgc A2 s p = sgc A s p ∧ Opn A2 s p cnt = Opn A s p cnt := by
  have e2 := h.1 2 (by decide) (by decide) (by decide)
  have e1 : ndc A2 s p = ndc A s p := by unfold ndc; rw [snd_c e2]
  have e3 : sgc A2 s p = sgc A s p := by unfold sgc; rw [ssg_c e2]
  refine ⟨e1, e3, ?_⟩
  unfold Opn
  rw [e1, e3, HasF_c e2 (h.1 7 (by decide) (by decide) (by decide)) (h.1 8 (by decide) (by decide) (by decide)), HavP_c (h.1 21 (by decide) (by decide) (by decide))]
theorem CellI.add {A A2 : Nat → Nat → Int32} {cnt s p : Nat} (h : CellI A A2 cnt (s * 5 + p)) (hp : p < 5) : CellI A (cel A2 s p cnt) cnt (s * 5 + p + 1) := by
  obtain ⟨g1, g2, g3⟩ := h.cgr s p
  refine ⟨fun o h1 h2 h3 => ?_, fun s2 p2 hp2 hlt => ?_⟩
  · funext k
    unfold cel
    rw [u2_o h1, u2_o h3, u2_o h2, h.1 o h1 h2 h3]
  · by_cases e : s2 * 5 + p2 = s * 5 + p
    · obtain ⟨rfl, rfl⟩ : s2 = s ∧ p2 = p := by omega
      unfold cel
      refine ⟨?_, ?_, ?_⟩
      · rw [u2_o (by decide), u2_o (by decide), u2_s, g1]
      · rw [u2_o (by decide), u2_s, g2]
      · rw [u2_s, g3]
    · obtain ⟨q1, q2, q3⟩ := h.2 s2 p2 hp2 (by omega)
      unfold cel
      refine ⟨?_, ?_, ?_⟩
      · rw [u2_o (by decide), u2_o (by decide), u2_k e, q1]
      · rw [u2_o (by decide), u2_k e, u2_o (by decide), q2]
      · rw [u2_k e, u2_o (by decide), u2_o (by decide), q3]
theorem cell_in {c : Nat} {x : Int32} (h : x = nI c) (hc : c < 160) : 0 ≤ x ∧ x < 160 := by
  subst h
  exact ⟨nI_pos' (by omega), nI_lt hc (by decide)⟩
set_option maxRecDepth 100000 in
set_option maxHeartbeats 4000000 in
theorem s_X1_cellOf (l : Launch) (A : Nat → Nat → Int32) (G : Nat → Nat → Int64) (a b : Int32) : Sem l mX1_cellOf [.int a, .int b] 27 (A, G, PF) 27 (pv (a * 5 + b) (A, G, PF)) := by
  refine sem_of_go (by decide) rfl (by decide) (by decide) rfl (Nat.le_of_ble_eq_true rfl) ?_
  show Go l ro0 mX1_cellOf 27 (A, G, PF) 0 [.int a, .int b] [] 27 (pv (a * 5 + b) (A, G, PF))
  refine go_blk (pc2 := 5) (L2 := [.int a, .int b]) (st2 := [.int ((a * 5) + b)]) (M2 := (A, G, PF)) (hs2 := []) (C := True) [(.iload_n 0, 0, 0), (.iconst 5, 0, 0), (.imul, 0, 0), (.iload_n 1, 0, 0), (.iadd, 0, 0)] [] (by decide +kernel) rfl trivial ?_
  exact go_reti (by decide +kernel) rfl (⟨rfl, rfl⟩)
set_option maxRecDepth 100000 in
set_option maxHeartbeats 4000000 in
theorem s_X1_isCell (l : Launch) (A : Nat → Nat → Int32) (G : Nat → Nat → Int64) (k : Int32) : Sem l mX1_isCell [.int k] 27 (A, G, PF) 27 (pv (bi (0 ≤ k ∧ k < 160)) (A, G, PF)) := by
  refine sem_of_go (by decide) rfl (by decide) (by decide) rfl (Nat.le_of_ble_eq_true rfl) ?_
  show Go l ro0 mX1_isCell 27 (A, G, PF) 0 [.int k] [] 27 (pv (bi (0 ≤ k ∧ k < 160)) (A, G, PF))
  refine go_blk (pc2 := 1) (L2 := [.int k]) (st2 := [.int k]) (M2 := (A, G, PF)) (hs2 := []) (C := True) [(.iload_n 0, 0, 0)] [] (by decide +kernel) rfl trivial ?_
  refine go_ifz (cnd := .lt) (off := 14) 15 (by decide +kernel) (by decide) (fun (c1 : k < 0) => ?_) (fun (c1 : ¬ k < 0) => ?_)
  · skip
    refine go_blk (pc2 := 16) (L2 := [.int k]) (st2 := [.int 0]) (M2 := (A, G, PF)) (hs2 := []) (C := True) [(.iconst 0, 0, 0)] [] (by decide +kernel) rfl trivial ?_
    exact go_retz (by decide +kernel) rfl (Or.inl rfl) (pv0 (by grind))
  · skip
    refine go_blk (pc2 := 8) (L2 := [.int k]) (st2 := [.int 160, .int k]) (M2 := (A, G, PF)) (hs2 := []) (C := True) [(.iload_n 0, 0, 0), (.sipush 160, 0, 0)] [] (by decide +kernel) rfl trivial ?_
    refine go_cmp (cnd := .ge) (off := 7) 15 (by decide +kernel) (by decide) (fun (c2 : 160 ≤ k) => ?_) (fun (c2 : ¬ 160 ≤ k) => ?_)
    · skip
      refine go_blk (pc2 := 16) (L2 := [.int k]) (st2 := [.int 0]) (M2 := (A, G, PF)) (hs2 := []) (C := True) [(.iconst 0, 0, 0)] [] (by decide +kernel) rfl trivial ?_
      exact go_retz (by decide +kernel) rfl (Or.inl rfl) (pv0 (by grind))
    · skip
      refine go_blk (pc2 := 12) (L2 := [.int k]) (st2 := [.int 1]) (M2 := (A, G, PF)) (hs2 := []) (C := True) [(.iconst 1, 0, 0)] [] (by decide +kernel) rfl trivial ?_
      refine go_goto (off := 4) 16 (by decide +kernel) (by decide) ?_
      exact go_retz (by decide +kernel) rfl (Or.inr rfl) (pv1 (by grind))
set_option maxRecDepth 100000 in
set_option maxHeartbeats 4000000 in
theorem s_X1_rebuildCell (l : Launch) (A : Nat → Nat → Int32) (G : Nat → Nat → Int64) (cnt : Nat) (hc : A 12 9 = nI cnt) (hc364 : cnt ≤ 364) (hF : FOk A) (s : Nat) (hs : s < 32) (p : Nat) (hp : p < 5) : Sem l mX1_rebuildCell [.ref 22, .int (nI s), .int (nI p), .ref 1, .ref 12] 27 (A, G, PF) 27 (pm (cel A s p cnt, G, PF)) := by
  refine sem_of_go (by decide) rfl (by decide) (by decide) rfl (Nat.le_of_ble_eq_true rfl) ?_
  show Go l ro0 mX1_rebuildCell 27 (A, G, PF) 0 [.ref 22, .int (nI s), .int (nI p), .ref 1, .ref 12, .null] [] 27 (pm (cel A s p cnt, G, PF))
  refine go_blk (pc2 := 2) (L2 := [.ref 22, .int (nI s), .int (nI p), .ref 1, .ref 12, .null]) (st2 := [.int (nI p), .int (nI s)]) (M2 := (A, G, PF)) (hs2 := []) (C := True) [(.iload_n 1, 0, 0), (.iload_n 2, 0, 0)] [] (by decide +kernel) rfl trivial ?_
  refine go_call (Y2 := mX1_cellOf) (n2 := 27) (st := []) [] [.int (nI s), .int (nI p)] ck_1_26 cwX1_cellOf rfl (by decide +kernel) rfl (fun _ => rfl) (fun h => absurd rfl h) (Nat.le_of_ble_eq_true rfl) (Or.inl rfl) (fun _ _ _ h => h) (s_X1_cellOf l A G (nI s) (nI p)) (fun v M2 hp1 => ?_)
  obtain ⟨rfl, rfl⟩ := hp1
  show Go l ro0 mX1_rebuildCell 27 (A, G, PF) 5 [.ref 22, .int (nI s), .int (nI p), .ref 1, .ref 12, .null] [.int ((nI s) * 5 + (nI p))] 27 _
  refine go_blk (pc2 := 9) (L2 := [.ref 22, .int (nI s), .int (nI p), .ref 1, .ref 12, .int ((nI s) * 5 + (nI p))]) (st2 := [.int ((nI s) * 5 + (nI p))]) (M2 := (A, G, PF)) (hs2 := []) (C := True) [(.istore 5, 0, 0), (.iload 5, 0, 0)] [] (by decide +kernel) rfl trivial ?_
  refine go_call (Y2 := mX1_isCell) (n2 := 27) (st := []) [] [.int ((nI s) * 5 + (nI p))] ck_1_30 cwX1_isCell rfl (by decide +kernel) rfl (fun _ => rfl) (fun h => absurd rfl h) (Nat.le_of_ble_eq_true rfl) (Or.inl rfl) (fun _ _ _ h => h) (s_X1_isCell l A G ((nI s) * 5 + (nI p))) (fun v M2 hp2 => ?_)
  obtain ⟨rfl, rfl⟩ := hp2
  rw [bi_t (cell_in (c := (s * 5 + p)) (by first | rfl | (simp only [nI, Int32.ofNat_add, Int32.ofNat_mul]; done) | (simp only [nI, Int32.ofNat_add, Int32.ofNat_mul]; rfl)) (by omega))]
  show Go l ro0 mX1_rebuildCell 27 (A, G, PF) 12 [.ref 22, .int (nI s), .int (nI p), .ref 1, .ref 12, .int ((nI s) * 5 + (nI p))] [.int 1] 27 _
  refine go_ifz (cnd := .eq) (off := 80) 92 (by decide +kernel) (by decide) (fun (h : (1 : Int32) = 0) => absurd h (by decide)) (fun _ => ?_)
  refine go_blk (pc2 := 23) (L2 := [.ref 22, .int (nI s), .int (nI p), .ref 1, .ref 12, .int ((nI s) * 5 + (nI p))]) (st2 := [.int (nI s), .ref 1, .int ((nI s) * 5 + (nI p)), .ref 24]) (M2 := (A, G, PF)) (hs2 := []) (C := True) [(.aload_n 0, 0, 0), (.getfield 15, 1, 1), (.iload 5, 0, 0), (.aload_n 3, 0, 0), (.iload_n 1, 0, 0)] [] (by decide +kernel) rfl trivial ?_
  refine go_call (Y2 := mX0_sidesNeeded) (n2 := 27) (st := [.int ((nI s) * 5 + (nI p)), .ref 24]) [.ref 1] [.int (nI s)] ck_1_34 cwX0_sidesNeeded rfl (by decide +kernel) rfl (fun h => absurd h (by decide)) (fun _ => ⟨1, rfl, by decide, rfl⟩) (Nat.le_of_ble_eq_true rfl) (Or.inl rfl) (fun _ _ _ h => h) (s_X0_sidesNeeded l A G s hs) (fun v M2 hp3 => ?_)
  obtain ⟨rfl, rfl⟩ := hp3
  show Go l ro0 mX1_rebuildCell 27 (A, G, PF) 26 [.ref 22, .int (nI s), .int (nI p), .ref 1, .ref 12, .int ((nI s) * 5 + (nI p))] [.int (snd A s 5), .int ((nI s) * 5 + (nI p)), .ref 24] 27 _
  refine go_blk (pc2 := 27) (L2 := [.ref 22, .int (nI s), .int (nI p), .ref 1, .ref 12, .int ((nI s) * 5 + (nI p))]) (st2 := [.int (nI p), .int (snd A s 5), .int ((nI s) * 5 + (nI p)), .ref 24]) (M2 := (A, G, PF)) (hs2 := []) (C := True) [(.iload_n 2, 0, 0)] [] (by decide +kernel) rfl trivial ?_
  refine go_call (Y2 := mX1_pairsNeeded) (n2 := 27) (st := [.int (snd A s 5), .int ((nI s) * 5 + (nI p)), .ref 24]) [] [.int (nI p)] ck_1_40 cwX1_pairsNeeded rfl (by decide +kernel) rfl (fun _ => rfl) (fun h => absurd rfl h) (Nat.le_of_ble_eq_true rfl) (Or.inl rfl) (fun _ _ _ h => h) (s_X1_pairsNeeded l A G p hp) (fun v M2 hp4 => ?_)
  obtain ⟨rfl, rfl⟩ := hp4
  show Go l ro0 mX1_rebuildCell 27 (A, G, PF) 30 [.ref 22, .int (nI s), .int (nI p), .ref 1, .ref 12, .int ((nI s) * 5 + (nI p))] [.int (pnd p 3), .int (snd A s 5), .int ((nI s) * 5 + (nI p)), .ref 24] 27 _
  refine go_blk (pc2 := 40) (L2 := [.ref 22, .int (nI s), .int (nI p), .ref 1, .ref 12, .int ((nI s) * 5 + (nI p))]) (st2 := [.int (nI s), .ref 1, .int ((nI s) * 5 + (nI p)), .ref 25]) (M2 := ((u2 A 24 (s * 5 + p) ((snd A s 5) ||| (pnd p 3))), G, PF)) (hs2 := []) (C := (((nI s) * 5 + (nI p)) = nI (s * 5 + p) ∧ (s * 5 + p) < 160) ∧ True) [(.ior, 0, 0), (.iastore, 0, 0), (.aload_n 0, 0, 0), (.getfield 19, 1, 2), (.iload 5, 0, 0), (.aload_n 3, 0, 0), (.iload_n 1, 0, 0)] [(s * 5 + p)] (by decide +kernel) rfl ⟨⟨(by first | rfl | (simp only [nI, Int32.ofNat_add, Int32.ofNat_mul]; done) | (simp only [nI, Int32.ofNat_add, Int32.ofNat_mul]; rfl)), by omega⟩, trivial⟩ ?_
  refine go_call (Y2 := mX0_sidesSought) (n2 := 27) (st := [.int ((nI s) * 5 + (nI p)), .ref 25]) [.ref 1] [.int (nI s)] ck_1_43 cwX0_sidesSought rfl (by decide +kernel) rfl (fun h => absurd h (by decide)) (fun _ => ⟨1, rfl, by decide, rfl⟩) (Nat.le_of_ble_eq_true rfl) (Or.inl rfl) (fun _ _ _ h => h) (s_X0_sidesSought l (u2 A 24 (s * 5 + p) ((snd A s 5) ||| (pnd p 3))) G s hs) (fun v M2 hp5 => ?_)
  obtain ⟨rfl, rfl⟩ := hp5
  rw [ssg_c (A2 := (u2 A 24 (s * 5 + p) ((snd A s 5) ||| (pnd p 3)))) (A := A) rfl]
  show Go l ro0 mX1_rebuildCell 27 ((u2 A 24 (s * 5 + p) ((snd A s 5) ||| (pnd p 3))), G, PF) 43 [.ref 22, .int (nI s), .int (nI p), .ref 1, .ref 12, .int ((nI s) * 5 + (nI p))] [.int (ssg A s 5), .int ((nI s) * 5 + (nI p)), .ref 25] 27 _
  refine go_blk (pc2 := 44) (L2 := [.ref 22, .int (nI s), .int (nI p), .ref 1, .ref 12, .int ((nI s) * 5 + (nI p))]) (st2 := [.int (nI p), .int (ssg A s 5), .int ((nI s) * 5 + (nI p)), .ref 25]) (M2 := ((u2 A 24 (s * 5 + p) ((snd A s 5) ||| (pnd p 3))), G, PF)) (hs2 := []) (C := True) [(.iload_n 2, 0, 0)] [] (by decide +kernel) rfl trivial ?_
  refine go_call (Y2 := mX1_pairsSought) (n2 := 27) (st := [.int (ssg A s 5), .int ((nI s) * 5 + (nI p)), .ref 25]) [] [.int (nI p)] ck_1_46 cwX1_pairsSought rfl (by decide +kernel) rfl (fun _ => rfl) (fun h => absurd rfl h) (Nat.le_of_ble_eq_true rfl) (Or.inl rfl) (fun _ _ _ h => h) (s_X1_pairsSought l (u2 A 24 (s * 5 + p) ((snd A s 5) ||| (pnd p 3))) G p hp) (fun v M2 hp6 => ?_)
  obtain ⟨rfl, rfl⟩ := hp6
  show Go l ro0 mX1_rebuildCell 27 ((u2 A 24 (s * 5 + p) ((snd A s 5) ||| (pnd p 3))), G, PF) 47 [.ref 22, .int (nI s), .int (nI p), .ref 1, .ref 12, .int ((nI s) * 5 + (nI p))] [.int (psg p 3), .int (ssg A s 5), .int ((nI s) * 5 + (nI p)), .ref 25] 27 _
  refine go_blk (pc2 := 58) (L2 := [.ref 22, .int (nI s), .int (nI p), .ref 1, .ref 12, .int ((nI s) * 5 + (nI p))]) (st2 := [.int (nI p), .int (nI s), .ref 1, .int ((nI s) * 5 + (nI p)), .ref 23]) (M2 := ((u2 (u2 A 24 (s * 5 + p) ((snd A s 5) ||| (pnd p 3))) 25 (s * 5 + p) ((ssg A s 5) ||| (psg p 3))), G, PF)) (hs2 := []) (C := (((nI s) * 5 + (nI p)) = nI (s * 5 + p) ∧ (s * 5 + p) < 160) ∧ True) [(.ior, 0, 0), (.iastore, 0, 0), (.aload_n 0, 0, 0), (.getfield 9, 1, 0), (.iload 5, 0, 0), (.aload_n 3, 0, 0), (.iload_n 1, 0, 0), (.iload_n 2, 0, 0)] [(s * 5 + p)] (by decide +kernel) rfl ⟨⟨(by first | rfl | (simp only [nI, Int32.ofNat_add, Int32.ofNat_mul]; done) | (simp only [nI, Int32.ofNat_add, Int32.ofNat_mul]; rfl)), by omega⟩, trivial⟩ ?_
  refine go_call (Y2 := mX0_hasFunction) (n2 := 27) (st := [.int ((nI s) * 5 + (nI p)), .ref 23]) [.ref 1] [.int (nI s), .int (nI p)] ck_1_49 cwX0_hasFunction rfl (by decide +kernel) rfl (fun h => absurd h (by decide)) (fun _ => ⟨1, rfl, by decide, rfl⟩) (Nat.le_of_ble_eq_true rfl) (Or.inl rfl) (fun _ _ _ h => h) (s_X0_hasFunction l (u2 (u2 A 24 (s * 5 + p) ((snd A s 5) ||| (pnd p 3))) 25 (s * 5 + p) ((ssg A s 5) ||| (psg p 3))) G s hs p hp (FOk_c rfl rfl rfl hF)) (fun v M2 hp7 => ?_)
  obtain ⟨rfl, rfl⟩ := hp7
  rw [HasF_c (A2 := (u2 (u2 A 24 (s * 5 + p) ((snd A s 5) ||| (pnd p 3))) 25 (s * 5 + p) ((ssg A s 5) ||| (psg p 3)))) (A := A) rfl rfl rfl]
  rcases Classical.em (HasF A s p) with hb8 | hb8
  · rw [bi_t hb8]
    show Go l ro0 mX1_rebuildCell 27 ((u2 (u2 A 24 (s * 5 + p) ((snd A s 5) ||| (pnd p 3))) 25 (s * 5 + p) ((ssg A s 5) ||| (psg p 3))), G, PF) 61 [.ref 22, .int (nI s), .int (nI p), .ref 1, .ref 12, .int ((nI s) * 5 + (nI p))] [.int 1, .int ((nI s) * 5 + (nI p)), .ref 23] 27 _
    refine go_ifz (cnd := .eq) (off := 29) 90 (by decide +kernel) (by decide) (fun (h : (1 : Int32) = 0) => absurd h (by decide)) (fun _ => ?_)
    refine go_blk (pc2 := 80) (L2 := [.ref 22, .int (nI s), .int (nI p), .ref 1, .ref 12, .int ((nI s) * 5 + (nI p))]) (st2 := [.int ((u2 (u2 A 24 (s * 5 + p) ((snd A s 5) ||| (pnd p 3))) 25 (s * 5 + p) ((ssg A s 5) ||| (psg p 3))) 25 (s * 5 + p)), .int ((u2 (u2 A 24 (s * 5 + p) ((snd A s 5) ||| (pnd p 3))) 25 (s * 5 + p) ((ssg A s 5) ||| (psg p 3))) 24 (s * 5 + p)), .ref 12, .int ((nI s) * 5 + (nI p)), .ref 23]) (M2 := ((u2 (u2 A 24 (s * 5 + p) ((snd A s 5) ||| (pnd p 3))) 25 (s * 5 + p) ((ssg A s 5) ||| (psg p 3))), G, PF)) (hs2 := []) (C := (((nI s) * 5 + (nI p)) = nI (s * 5 + p) ∧ (s * 5 + p) < 160) ∧ (((nI s) * 5 + (nI p)) = nI (s * 5 + p) ∧ (s * 5 + p) < 160) ∧ True) [(.aload 4, 0, 0), (.aload_n 0, 0, 0), (.getfield 15, 1, 1), (.iload 5, 0, 0), (.iaload, 0, 0), (.aload_n 0, 0, 0), (.getfield 19, 1, 2), (.iload 5, 0, 0), (.iaload, 0, 0)] [(s * 5 + p), (s * 5 + p)] (by decide +kernel) rfl ⟨⟨(by first | rfl | (simp only [nI, Int32.ofNat_add, Int32.ofNat_mul]; done) | (simp only [nI, Int32.ofNat_add, Int32.ofNat_mul]; rfl)), by omega⟩, ⟨(by first | rfl | (simp only [nI, Int32.ofNat_add, Int32.ofNat_mul]; done) | (simp only [nI, Int32.ofNat_add, Int32.ofNat_mul]; rfl)), by omega⟩, trivial⟩ ?_
    rw [show ((u2 (u2 A 24 (s * 5 + p) ((snd A s 5) ||| (pnd p 3))) 25 (s * 5 + p) ((ssg A s 5) ||| (psg p 3))) 24 (s * 5 + p) : Int32) = ((snd A s 5) ||| (pnd p 3)) from by simp [u2]]
    rw [show ((u2 (u2 A 24 (s * 5 + p) ((snd A s 5) ||| (pnd p 3))) 25 (s * 5 + p) ((ssg A s 5) ||| (psg p 3))) 25 (s * 5 + p) : Int32) = ((ssg A s 5) ||| (psg p 3)) from by simp [u2]]
    refine go_call (Y2 := mX3_havePoint) (n2 := 27) (st := [.int ((nI s) * 5 + (nI p)), .ref 23]) [.ref 12] [.int ((snd A s 5) ||| (pnd p 3)), .int ((ssg A s 5) ||| (psg p 3))] ck_1_53 cwX3_havePoint rfl (by decide +kernel) rfl (fun h => absurd h (by decide)) (fun _ => ⟨12, rfl, by decide, rfl⟩) (Nat.le_of_ble_eq_true rfl) (Or.inl rfl) (fun _ _ _ h => h) (s_X3_havePoint l (u2 (u2 A 24 (s * 5 + p) ((snd A s 5) ||| (pnd p 3))) 25 (s * 5 + p) ((ssg A s 5) ||| (psg p 3))) G cnt hc hc364 ((snd A s 5) ||| (pnd p 3)) ((ssg A s 5) ||| (psg p 3))) (fun v M2 hp9 => ?_)
    obtain ⟨rfl, rfl⟩ := hp9
    rw [HavP_c (A2 := (u2 (u2 A 24 (s * 5 + p) ((snd A s 5) ||| (pnd p 3))) 25 (s * 5 + p) ((ssg A s 5) ||| (psg p 3)))) (A := A) rfl]
    rcases Classical.em (HavP A ((snd A s 5) ||| (pnd p 3)) ((ssg A s 5) ||| (psg p 3)) cnt) with hb10 | hb10
    · rw [bi_t hb10]
      show Go l ro0 mX1_rebuildCell 27 ((u2 (u2 A 24 (s * 5 + p) ((snd A s 5) ||| (pnd p 3))) 25 (s * 5 + p) ((ssg A s 5) ||| (psg p 3))), G, PF) 83 [.ref 22, .int (nI s), .int (nI p), .ref 1, .ref 12, .int ((nI s) * 5 + (nI p))] [.int 1, .int ((nI s) * 5 + (nI p)), .ref 23] 27 _
      refine go_ifz (cnd := .eq) (off := 7) 90 (by decide +kernel) (by decide) (fun (h : (1 : Int32) = 0) => absurd h (by decide)) (fun _ => ?_)
      refine go_blk (pc2 := 87) (L2 := [.ref 22, .int (nI s), .int (nI p), .ref 1, .ref 12, .int ((nI s) * 5 + (nI p))]) (st2 := [.int 1, .int ((nI s) * 5 + (nI p)), .ref 23]) (M2 := ((u2 (u2 A 24 (s * 5 + p) ((snd A s 5) ||| (pnd p 3))) 25 (s * 5 + p) ((ssg A s 5) ||| (psg p 3))), G, PF)) (hs2 := []) (C := True) [(.iconst 1, 0, 0)] [] (by decide +kernel) rfl trivial ?_
      refine go_goto (off := 4) 91 (by decide +kernel) (by decide) ?_
      refine go_blk (pc2 := 92) (L2 := [.ref 22, .int (nI s), .int (nI p), .ref 1, .ref 12, .int ((nI s) * 5 + (nI p))]) (st2 := []) (M2 := ((u2 (u2 (u2 A 24 (s * 5 + p) ((snd A s 5) ||| (pnd p 3))) 25 (s * 5 + p) ((ssg A s 5) ||| (psg p 3))) 23 (s * 5 + p) 1), G, PF)) (hs2 := []) (C := (((nI s) * 5 + (nI p)) = nI (s * 5 + p) ∧ (s * 5 + p) < 160 ∧ (1 = 0 ∨ 1 = 1)) ∧ True) [(.bastore, 0, 0)] [(s * 5 + p)] (by decide +kernel) rfl ⟨⟨(by first | rfl | (simp only [nI, Int32.ofNat_add, Int32.ofNat_mul]; done) | (simp only [nI, Int32.ofNat_add, Int32.ofNat_mul]; rfl)), by omega, Or.inr rfl⟩, trivial⟩ ?_
      exact go_retv (by decide +kernel) rfl (⟨rfl, by unfold cel; first | rw [bi_t (show Opn A s p cnt from ⟨by assumption, by assumption⟩)]; rfl | (rw [bi_f (show ¬ Opn A s p cnt from fun zz => absurd zz.1 (by assumption))]; rfl) | (rw [bi_f (show ¬ Opn A s p cnt from fun zz => absurd zz.2 (by assumption))]; rfl)⟩)
    · rw [bi_f hb10]
      show Go l ro0 mX1_rebuildCell 27 ((u2 (u2 A 24 (s * 5 + p) ((snd A s 5) ||| (pnd p 3))) 25 (s * 5 + p) ((ssg A s 5) ||| (psg p 3))), G, PF) 83 [.ref 22, .int (nI s), .int (nI p), .ref 1, .ref 12, .int ((nI s) * 5 + (nI p))] [.int 0, .int ((nI s) * 5 + (nI p)), .ref 23] 27 _
      refine go_ifz (cnd := .eq) (off := 7) 90 (by decide +kernel) (by decide) (fun _ => ?_) (fun (h : ¬ (0 : Int32) = 0) => absurd h (by decide))
      refine go_blk (pc2 := 92) (L2 := [.ref 22, .int (nI s), .int (nI p), .ref 1, .ref 12, .int ((nI s) * 5 + (nI p))]) (st2 := []) (M2 := ((u2 (u2 (u2 A 24 (s * 5 + p) ((snd A s 5) ||| (pnd p 3))) 25 (s * 5 + p) ((ssg A s 5) ||| (psg p 3))) 23 (s * 5 + p) 0), G, PF)) (hs2 := []) (C := (((nI s) * 5 + (nI p)) = nI (s * 5 + p) ∧ (s * 5 + p) < 160 ∧ (0 = 0 ∨ 0 = 1)) ∧ True) [(.iconst 0, 0, 0), (.bastore, 0, 0)] [(s * 5 + p)] (by decide +kernel) rfl ⟨⟨(by first | rfl | (simp only [nI, Int32.ofNat_add, Int32.ofNat_mul]; done) | (simp only [nI, Int32.ofNat_add, Int32.ofNat_mul]; rfl)), by omega, Or.inl rfl⟩, trivial⟩ ?_
      exact go_retv (by decide +kernel) rfl (⟨rfl, by unfold cel; first | rw [bi_t (show Opn A s p cnt from ⟨by assumption, by assumption⟩)]; rfl | (rw [bi_f (show ¬ Opn A s p cnt from fun zz => absurd zz.1 (by assumption))]; rfl) | (rw [bi_f (show ¬ Opn A s p cnt from fun zz => absurd zz.2 (by assumption))]; rfl)⟩)
  · rw [bi_f hb8]
    show Go l ro0 mX1_rebuildCell 27 ((u2 (u2 A 24 (s * 5 + p) ((snd A s 5) ||| (pnd p 3))) 25 (s * 5 + p) ((ssg A s 5) ||| (psg p 3))), G, PF) 61 [.ref 22, .int (nI s), .int (nI p), .ref 1, .ref 12, .int ((nI s) * 5 + (nI p))] [.int 0, .int ((nI s) * 5 + (nI p)), .ref 23] 27 _
    refine go_ifz (cnd := .eq) (off := 29) 90 (by decide +kernel) (by decide) (fun _ => ?_) (fun (h : ¬ (0 : Int32) = 0) => absurd h (by decide))
    refine go_blk (pc2 := 92) (L2 := [.ref 22, .int (nI s), .int (nI p), .ref 1, .ref 12, .int ((nI s) * 5 + (nI p))]) (st2 := []) (M2 := ((u2 (u2 (u2 A 24 (s * 5 + p) ((snd A s 5) ||| (pnd p 3))) 25 (s * 5 + p) ((ssg A s 5) ||| (psg p 3))) 23 (s * 5 + p) 0), G, PF)) (hs2 := []) (C := (((nI s) * 5 + (nI p)) = nI (s * 5 + p) ∧ (s * 5 + p) < 160 ∧ (0 = 0 ∨ 0 = 1)) ∧ True) [(.iconst 0, 0, 0), (.bastore, 0, 0)] [(s * 5 + p)] (by decide +kernel) rfl ⟨⟨(by first | rfl | (simp only [nI, Int32.ofNat_add, Int32.ofNat_mul]; done) | (simp only [nI, Int32.ofNat_add, Int32.ofNat_mul]; rfl)), by omega, Or.inl rfl⟩, trivial⟩ ?_
    exact go_retv (by decide +kernel) rfl (⟨rfl, by unfold cel; first | rw [bi_t (show Opn A s p cnt from ⟨by assumption, by assumption⟩)]; rfl | (rw [bi_f (show ¬ Opn A s p cnt from fun zz => absurd zz.1 (by assumption))]; rfl) | (rw [bi_f (show ¬ Opn A s p cnt from fun zz => absurd zz.2 (by assumption))]; rfl)⟩)
set_option maxRecDepth 100000 in
set_option maxHeartbeats 4000000 in
theorem lp_X1_rebuild (l : Launch) (A : Nat → Nat → Int32) (G : Nat → Nat → Int64) (cnt : Nat) (hc : A 12 9 = nI cnt) (hc364 : cnt ≤ 364) (hF : FOk A) (s : Nat) (hs : s < 32) (hout : ∀ A2, CellI A A2 cnt ((s + 1) * 5) → ∀ j : Value, Go l ro0 mX1_rebuild 27 (A2, G, PF) 2 [.ref 22, .ref 1, .ref 12, .int (nI (s + 1)), j] [] 27 (fun r M2 => r = none ∧ ∃ A2, M2 = (A2, G, PF) ∧ CellI A A2 cnt 160)) : ∀ p, p ≤ 5 → ∀ A2, CellI A A2 cnt (s * 5 + p) → Go l ro0 mX1_rebuild 27 (A2, G, PF) 11 [.ref 22, .ref 1, .ref 12, .int (nI s), .int (nI p)] [] 27 (fun r M2 => r = none ∧ ∃ A2, M2 = (A2, G, PF) ∧ CellI A A2 cnt 160) := by
  refine down 5 (fun p hp ih A2 hI => ?_)
  refine go_blk (pc2 := 14) (L2 := [.ref 22, .ref 1, .ref 12, .int (nI s), .int (nI p)]) (st2 := [.int 5, .int (nI p)]) (M2 := (A2, G, PF)) (hs2 := []) (C := True) [(.iload 4, 0, 0), (.iconst 5, 0, 0)] [] (by decide +kernel) rfl trivial ?_
  refine go_cmp (cnd := .ge) (off := 18) 32 (by decide +kernel) (by decide) (fun (c1 : 5 ≤ (nI p)) => ?_) (fun (c1 : ¬ 5 ≤ (nI p)) => ?_)
  · skip
    replace c1 : 5 ≤ p := (nx_le (a := 5) (b := p) rfl rfl (by omega) (by omega)).mp c1
    refine go_blk (pc2 := 35) (L2 := [.ref 22, .ref 1, .ref 12, .int ((nI s) + 1), .int (nI p)]) (st2 := []) (M2 := (A2, G, PF)) (hs2 := []) (C := True) [(.iinc 3 1, 0, 0)] [] (by decide +kernel) rfl trivial ?_
    refine go_goto (off := -33) 2 (by decide +kernel) (by decide) ?_
    exact go_as (hout A2 (by rw [show (s + 1) * 5 = s * 5 + p by omega]; exact hI) (.int (nI p))) rfl (by simp only [nI_1]) rfl
  · skip
    replace c1 : ¬ 5 ≤ p := fun zz => c1 ((nx_le (a := 5) (b := p) rfl rfl (by omega) (by omega)).mpr zz)
    refine go_blk (pc2 := 23) (L2 := [.ref 22, .ref 1, .ref 12, .int (nI s), .int (nI p)]) (st2 := [.ref 12, .ref 1, .int (nI p), .int (nI s), .ref 22]) (M2 := (A2, G, PF)) (hs2 := []) (C := True) [(.aload_n 0, 0, 0), (.iload_n 3, 0, 0), (.iload 4, 0, 0), (.aload_n 1, 0, 0), (.aload_n 2, 0, 0)] [] (by decide +kernel) rfl trivial ?_
    refine go_call (Y2 := mX1_rebuildCell) (n2 := 27) (st := []) [.ref 22] [.int (nI s), .int (nI p), .ref 1, .ref 12] ck_1_22 cwX1_rebuildCell rfl (by decide +kernel) rfl (fun h => absurd h (by decide)) (fun _ => ⟨22, rfl, by decide, rfl⟩) (Nat.le_of_ble_eq_true rfl) (Or.inl rfl) (fun _ _ _ h => h) (s_X1_rebuildCell l A2 G cnt (by rw [hI.1 12 (by decide) (by decide) (by decide)]; exact hc) hc364 (FOk_c (hI.1 2 (by decide) (by decide) (by decide)) (hI.1 7 (by decide) (by decide) (by decide)) (hI.1 8 (by decide) (by decide) (by decide)) hF) s hs p (by omega)) (fun v M2 hp2 => ?_)
    obtain ⟨rfl, rfl⟩ := hp2
    show Go l ro0 mX1_rebuild 27 ((cel A2 s p cnt), G, PF) 26 [.ref 22, .ref 1, .ref 12, .int (nI s), .int (nI p)] [] 27 _
    refine go_blk (pc2 := 29) (L2 := [.ref 22, .ref 1, .ref 12, .int (nI s), .int ((nI p) + 1)]) (st2 := []) (M2 := ((cel A2 s p cnt), G, PF)) (hs2 := []) (C := True) [(.iinc 4 1, 0, 0)] [] (by decide +kernel) rfl trivial ?_
    refine go_goto (off := -18) 11 (by decide +kernel) (by decide) ?_
    exact go_as (ih (by omega) _ (hI.add (by omega))) rfl (by simp only [nI_1]) rfl
set_option maxRecDepth 100000 in
set_option maxHeartbeats 4000000 in
theorem ls_X1_rebuild (l : Launch) (A : Nat → Nat → Int32) (G : Nat → Nat → Int64) (cnt : Nat) (hc : A 12 9 = nI cnt) (hc364 : cnt ≤ 364) (hF : FOk A) : ∀ s, s ≤ 32 → ∀ A2, CellI A A2 cnt (s * 5) → ∀ j : Value, Go l ro0 mX1_rebuild 27 (A2, G, PF) 2 [.ref 22, .ref 1, .ref 12, .int (nI s), j] [] 27 (fun r M2 => r = none ∧ ∃ A2, M2 = (A2, G, PF) ∧ CellI A A2 cnt 160) := by
  refine down 32 (fun s hs ih A2 hI j => ?_)
  refine go_blk (pc2 := 5) (L2 := [.ref 22, .ref 1, .ref 12, .int (nI s), j]) (st2 := [.int 32, .int (nI s)]) (M2 := (A2, G, PF)) (hs2 := []) (C := True) [(.iload_n 3, 0, 0), (.bipush 32, 0, 0)] [] (by decide +kernel) rfl trivial ?_
  refine go_cmp (cnd := .ge) (off := 33) 38 (by decide +kernel) (by decide) (fun (c1 : 32 ≤ (nI s)) => ?_) (fun (c1 : ¬ 32 ≤ (nI s)) => ?_)
  · skip
    replace c1 : 32 ≤ s := (nx_le (a := 32) (b := s) rfl rfl (by omega) (by omega)).mp c1
    exact go_retv (by decide +kernel) rfl (⟨rfl, A2, rfl, by rw [show 160 = s * 5 by omega]; exact hI⟩)
  · skip
    replace c1 : ¬ 32 ≤ s := fun zz => c1 ((nx_le (a := 32) (b := s) rfl rfl (by omega) (by omega)).mpr zz)
    refine go_blk (pc2 := 11) (L2 := [.ref 22, .ref 1, .ref 12, .int (nI s), .int 0]) (st2 := []) (M2 := (A2, G, PF)) (hs2 := []) (C := True) [(.iconst 0, 0, 0), (.istore 4, 0, 0)] [] (by decide +kernel) rfl trivial ?_
    exact lp_X1_rebuild l A G cnt hc hc364 hF s (by omega) (fun A3 h3 j3 => ih (by omega) A3 h3 j3) 0 (by omega) A2 hI
set_option maxRecDepth 100000 in
set_option maxHeartbeats 4000000 in
theorem s_X1_rebuild (l : Launch) (A : Nat → Nat → Int32) (G : Nat → Nat → Int64) (cnt : Nat) (hc : A 12 9 = nI cnt) (hc364 : cnt ≤ 364) (hF : FOk A) : Sem l mX1_rebuild [.ref 22, .ref 1, .ref 12] 27 (A, G, PF) 27 (fun r M2 => r = none ∧ ∃ A2, M2 = (A2, G, PF) ∧ CellI A A2 cnt 160) := by
  refine sem_of_go (by decide) rfl (by decide) (by decide) rfl (Nat.le_of_ble_eq_true rfl) ?_
  show Go l ro0 mX1_rebuild 27 (A, G, PF) 0 [.ref 22, .ref 1, .ref 12, .null, .null] [] 27 (fun r M2 => r = none ∧ ∃ A2, M2 = (A2, G, PF) ∧ CellI A A2 cnt 160)
  refine go_blk (pc2 := 2) (L2 := [.ref 22, .ref 1, .ref 12, .int 0, .null]) (st2 := []) (M2 := (A, G, PF)) (hs2 := []) (C := True) [(.iconst 0, 0, 0), (.istore_n 3, 0, 0)] [] (by decide +kernel) rfl trivial ?_
  exact ls_X1_rebuild l A G cnt hc hc364 hF 0 (by omega) A ⟨fun _ _ _ _ => rfl, fun s p _ h => absurd h (by omega)⟩ _
set_option maxRecDepth 100000 in
set_option maxHeartbeats 4000000 in
theorem s_X1_isOpen (l : Launch) (A : Nat → Nat → Int32) (G : Nat → Nat → Int64) (c : Nat) (x : Int32) (hx : x = nI c) (hc160 : c < 160) : Sem l mX1_isOpen [.ref 22, .int x] 27 (A, G, PF) 27 (pv (bi (¬ A 23 c = 0)) (A, G, PF)) := by
  refine sem_of_go (by decide) rfl (by decide) (by decide) rfl (Nat.le_of_ble_eq_true rfl) ?_
  show Go l ro0 mX1_isOpen 27 (A, G, PF) 0 [.ref 22, .int x] [] 27 (pv (bi (¬ A 23 c = 0)) (A, G, PF))
  refine go_blk (pc2 := 1) (L2 := [.ref 22, .int x]) (st2 := [.int x]) (M2 := (A, G, PF)) (hs2 := []) (C := True) [(.iload_n 1, 0, 0)] [] (by decide +kernel) rfl trivial ?_
  refine go_call (Y2 := mX1_isCell) (n2 := 27) (st := []) [] [.int x] ck_1_30 cwX1_isCell rfl (by decide +kernel) rfl (fun _ => rfl) (fun h => absurd rfl h) (Nat.le_of_ble_eq_true rfl) (Or.inl rfl) (fun _ _ _ h => h) (s_X1_isCell l A G x) (fun v M2 hp1 => ?_)
  obtain ⟨rfl, rfl⟩ := hp1
  rw [bi_t (cell_in (c := c) hx (by omega))]
  show Go l ro0 mX1_isOpen 27 (A, G, PF) 4 [.ref 22, .int x] [.int 1] 27 _
  refine go_ifz (cnd := .eq) (off := 16) 20 (by decide +kernel) (by decide) (fun (h : (1 : Int32) = 0) => absurd h (by decide)) (fun _ => ?_)
  refine go_blk (pc2 := 13) (L2 := [.ref 22, .int x]) (st2 := [.int (A 23 c)]) (M2 := (A, G, PF)) (hs2 := []) (C := (x = nI c ∧ c < 160) ∧ True) [(.aload_n 0, 0, 0), (.getfield 9, 1, 0), (.iload_n 1, 0, 0), (.baload, 0, 0)] [c] (by decide +kernel) rfl ⟨⟨hx, by omega⟩, trivial⟩ ?_
  refine go_ifz (cnd := .eq) (off := 7) 20 (by decide +kernel) (by decide) (fun (c2 : (A 23 c) = 0) => ?_) (fun (c2 : ¬ (A 23 c) = 0) => ?_)
  · skip
    refine go_blk (pc2 := 21) (L2 := [.ref 22, .int x]) (st2 := [.int 0]) (M2 := (A, G, PF)) (hs2 := []) (C := True) [(.iconst 0, 0, 0)] [] (by decide +kernel) rfl trivial ?_
    exact go_retz (by decide +kernel) rfl (Or.inl rfl) (pv0 (fun zz => zz (by assumption)))
  · skip
    refine go_blk (pc2 := 17) (L2 := [.ref 22, .int x]) (st2 := [.int 1]) (M2 := (A, G, PF)) (hs2 := []) (C := True) [(.iconst 1, 0, 0)] [] (by decide +kernel) rfl trivial ?_
    refine go_goto (off := 4) 21 (by decide +kernel) (by decide) ?_
    exact go_retz (by decide +kernel) rfl (Or.inr rfl) (pv1 (by assumption))
set_option maxRecDepth 100000 in
set_option maxHeartbeats 4000000 in
theorem s_X1_neededIn (l : Launch) (A : Nat → Nat → Int32) (G : Nat → Nat → Int64) (c : Nat) (x : Int32) (hx : x = nI c) (hc160 : c < 160) : Sem l mX1_neededIn [.ref 22, .int x] 27 (A, G, PF) 27 (pv (A 24 c) (A, G, PF)) := by
  refine sem_of_go (by decide) rfl (by decide) (by decide) rfl (Nat.le_of_ble_eq_true rfl) ?_
  show Go l ro0 mX1_neededIn 27 (A, G, PF) 0 [.ref 22, .int x] [] 27 (pv (A 24 c) (A, G, PF))
  refine go_blk (pc2 := 1) (L2 := [.ref 22, .int x]) (st2 := [.int x]) (M2 := (A, G, PF)) (hs2 := []) (C := True) [(.iload_n 1, 0, 0)] [] (by decide +kernel) rfl trivial ?_
  refine go_call (Y2 := mX1_isCell) (n2 := 27) (st := []) [] [.int x] ck_1_30 cwX1_isCell rfl (by decide +kernel) rfl (fun _ => rfl) (fun h => absurd rfl h) (Nat.le_of_ble_eq_true rfl) (Or.inl rfl) (fun _ _ _ h => h) (s_X1_isCell l A G x) (fun v M2 hp1 => ?_)
  obtain ⟨rfl, rfl⟩ := hp1
  rw [bi_t (cell_in (c := c) hx (by omega))]
  show Go l ro0 mX1_neededIn 27 (A, G, PF) 4 [.ref 22, .int x] [.int 1] 27 _
  refine go_ifz (cnd := .eq) (off := 12) 16 (by decide +kernel) (by decide) (fun (h : (1 : Int32) = 0) => absurd h (by decide)) (fun _ => ?_)
  refine go_blk (pc2 := 13) (L2 := [.ref 22, .int x]) (st2 := [.int (A 24 c)]) (M2 := (A, G, PF)) (hs2 := []) (C := (x = nI c ∧ c < 160) ∧ True) [(.aload_n 0, 0, 0), (.getfield 15, 1, 1), (.iload_n 1, 0, 0), (.iaload, 0, 0)] [c] (by decide +kernel) rfl ⟨⟨hx, by omega⟩, trivial⟩ ?_
  refine go_goto (off := 4) 17 (by decide +kernel) (by decide) ?_
  exact go_reti (by decide +kernel) rfl (⟨rfl, rfl⟩)
set_option maxRecDepth 100000 in
set_option maxHeartbeats 4000000 in
theorem s_X1_soughtIn (l : Launch) (A : Nat → Nat → Int32) (G : Nat → Nat → Int64) (c : Nat) (x : Int32) (hx : x = nI c) (hc160 : c < 160) : Sem l mX1_soughtIn [.ref 22, .int x] 27 (A, G, PF) 27 (pv (A 25 c) (A, G, PF)) := by
  refine sem_of_go (by decide) rfl (by decide) (by decide) rfl (Nat.le_of_ble_eq_true rfl) ?_
  show Go l ro0 mX1_soughtIn 27 (A, G, PF) 0 [.ref 22, .int x] [] 27 (pv (A 25 c) (A, G, PF))
  refine go_blk (pc2 := 1) (L2 := [.ref 22, .int x]) (st2 := [.int x]) (M2 := (A, G, PF)) (hs2 := []) (C := True) [(.iload_n 1, 0, 0)] [] (by decide +kernel) rfl trivial ?_
  refine go_call (Y2 := mX1_isCell) (n2 := 27) (st := []) [] [.int x] ck_1_30 cwX1_isCell rfl (by decide +kernel) rfl (fun _ => rfl) (fun h => absurd rfl h) (Nat.le_of_ble_eq_true rfl) (Or.inl rfl) (fun _ _ _ h => h) (s_X1_isCell l A G x) (fun v M2 hp1 => ?_)
  obtain ⟨rfl, rfl⟩ := hp1
  rw [bi_t (cell_in (c := c) hx (by omega))]
  show Go l ro0 mX1_soughtIn 27 (A, G, PF) 4 [.ref 22, .int x] [.int 1] 27 _
  refine go_ifz (cnd := .eq) (off := 12) 16 (by decide +kernel) (by decide) (fun (h : (1 : Int32) = 0) => absurd h (by decide)) (fun _ => ?_)
  refine go_blk (pc2 := 13) (L2 := [.ref 22, .int x]) (st2 := [.int (A 25 c)]) (M2 := (A, G, PF)) (hs2 := []) (C := (x = nI c ∧ c < 160) ∧ True) [(.aload_n 0, 0, 0), (.getfield 19, 1, 2), (.iload_n 1, 0, 0), (.iaload, 0, 0)] [c] (by decide +kernel) rfl ⟨⟨hx, by omega⟩, trivial⟩ ?_
  refine go_goto (off := 4) 17 (by decide +kernel) (by decide) ?_
  exact go_reti (by decide +kernel) rfl (⟨rfl, rfl⟩)
set_option maxRecDepth 100000 in
set_option maxHeartbeats 4000000 in
theorem lp_X1_isOpenSomewhere (l : Launch) (A : Nat → Nat → Int32) (G : Nat → Nat → Int64) (s : Nat) (hs : s < 32) : ∀ p, p ≤ 5 → (∀ p2, p2 < p → ¬ ¬ A 23 (s * 5 + p2) = 0) → Go l ro0 mX1_isOpenSomewhere 27 (A, G, PF) 2 [.ref 22, .int (nI s), .int (nI p)] [] 27 (pv (bi (∃ p, p < 5 ∧ ¬ A 23 (s * 5 + p) = 0)) (A, G, PF)) := by
  refine down 5 (fun p hk ih hinv  => ?_)
  refine go_blk (pc2 := 4) (L2 := [.ref 22, .int (nI s), .int (nI p)]) (st2 := [.int 5, .int (nI p)]) (M2 := (A, G, PF)) (hs2 := []) (C := True) [(.iload_n 2, 0, 0), (.iconst 5, 0, 0)] [] (by decide +kernel) rfl trivial ?_
  refine go_cmp (cnd := .ge) (off := 23) 27 (by decide +kernel) (by decide) (fun (c1 : 5 ≤ (nI p)) => ?_) (fun (c1 : ¬ 5 ≤ (nI p)) => ?_)
  · skip
    replace c1 : 5 ≤ p := (nx_le (a := 5) (b := p) rfl rfl (by omega) (by omega)).mp c1
    refine go_blk (pc2 := 28) (L2 := [.ref 22, .int (nI s), .int (nI p)]) (st2 := [.int 0]) (M2 := (A, G, PF)) (hs2 := []) (C := True) [(.iconst 0, 0, 0)] [] (by decide +kernel) rfl trivial ?_
    exact go_retz (by decide +kernel) rfl (Or.inl rfl) (pv0 (fun zz => by obtain ⟨p2, h2, h3⟩ := zz; exact hinv p2 (by omega) h3))
  · skip
    replace c1 : ¬ 5 ≤ p := fun zz => c1 ((nx_le (a := 5) (b := p) rfl rfl (by omega) (by omega)).mpr zz)
    refine go_blk (pc2 := 10) (L2 := [.ref 22, .int (nI s), .int (nI p)]) (st2 := [.int (nI p), .int (nI s), .ref 22]) (M2 := (A, G, PF)) (hs2 := []) (C := True) [(.aload_n 0, 0, 0), (.iload_n 1, 0, 0), (.iload_n 2, 0, 0)] [] (by decide +kernel) rfl trivial ?_
    refine go_call (Y2 := mX1_cellOf) (n2 := 27) (st := [.ref 22]) [] [.int (nI s), .int (nI p)] ck_1_26 cwX1_cellOf rfl (by decide +kernel) rfl (fun _ => rfl) (fun h => absurd rfl h) (Nat.le_of_ble_eq_true rfl) (Or.inl rfl) (fun _ _ _ h => h) (s_X1_cellOf l A G (nI s) (nI p)) (fun v M2 hp2 => ?_)
    obtain ⟨rfl, rfl⟩ := hp2
    show Go l ro0 mX1_isOpenSomewhere 27 (A, G, PF) 13 [.ref 22, .int (nI s), .int (nI p)] [.int ((nI s) * 5 + (nI p)), .ref 22] 27 _
    refine go_call (Y2 := mX1_isOpen) (n2 := 27) (st := []) [.ref 22] [.int ((nI s) * 5 + (nI p))] ck_1_58 cwX1_isOpen rfl (by decide +kernel) rfl (fun h => absurd h (by decide)) (fun _ => ⟨22, rfl, by decide, rfl⟩) (Nat.le_of_ble_eq_true rfl) (Or.inl rfl) (fun _ _ _ h => h) (s_X1_isOpen l A G (s * 5 + p) ((nI s) * 5 + (nI p)) (by first | rfl | (simp only [nI, Int32.ofNat_add, Int32.ofNat_mul]; done) | (simp only [nI, Int32.ofNat_add, Int32.ofNat_mul]; rfl)) (by omega)) (fun v M2 hp3 => ?_)
    obtain ⟨rfl, rfl⟩ := hp3
    rcases Classical.em (¬ A 23 (s * 5 + p) = 0) with hb4 | hb4
    · rw [bi_t hb4]
      show Go l ro0 mX1_isOpenSomewhere 27 (A, G, PF) 16 [.ref 22, .int (nI s), .int (nI p)] [.int 1] 27 _
      refine go_ifz (cnd := .eq) (off := 5) 21 (by decide +kernel) (by decide) (fun (h : (1 : Int32) = 0) => absurd h (by decide)) (fun _ => ?_)
      refine go_blk (pc2 := 20) (L2 := [.ref 22, .int (nI s), .int (nI p)]) (st2 := [.int 1]) (M2 := (A, G, PF)) (hs2 := []) (C := True) [(.iconst 1, 0, 0)] [] (by decide +kernel) rfl trivial ?_
      exact go_retz (by decide +kernel) rfl (Or.inr rfl) (pv1 ⟨p, by omega, by assumption⟩)
    · rw [bi_f hb4]
      show Go l ro0 mX1_isOpenSomewhere 27 (A, G, PF) 16 [.ref 22, .int (nI s), .int (nI p)] [.int 0] 27 _
      refine go_ifz (cnd := .eq) (off := 5) 21 (by decide +kernel) (by decide) (fun _ => ?_) (fun (h : ¬ (0 : Int32) = 0) => absurd h (by decide))
      refine go_blk (pc2 := 24) (L2 := [.ref 22, .int (nI s), .int ((nI p) + 1)]) (st2 := []) (M2 := (A, G, PF)) (hs2 := []) (C := True) [(.iinc 2 1, 0, 0)] [] (by decide +kernel) rfl trivial ?_
      refine go_goto (off := -22) 2 (by decide +kernel) (by decide) ?_
      exact go_as (ih (by omega) (fun p2 h2 => by by_cases e : p2 = p; (subst e; assumption); exact hinv p2 (by omega)) ) rfl (by simp only [nI_1]) rfl
set_option maxRecDepth 100000 in
set_option maxHeartbeats 4000000 in
theorem s_X1_isOpenSomewhere (l : Launch) (A : Nat → Nat → Int32) (G : Nat → Nat → Int64) (s : Nat) (hs : s < 32) : Sem l mX1_isOpenSomewhere [.ref 22, .int (nI s)] 27 (A, G, PF) 27 (pv (bi (∃ p, p < 5 ∧ ¬ A 23 (s * 5 + p) = 0)) (A, G, PF)) := by
  refine sem_of_go (by decide) rfl (by decide) (by decide) rfl (Nat.le_of_ble_eq_true rfl) ?_
  show Go l ro0 mX1_isOpenSomewhere 27 (A, G, PF) 0 [.ref 22, .int (nI s), .null] [] 27 (pv (bi (∃ p, p < 5 ∧ ¬ A 23 (s * 5 + p) = 0)) (A, G, PF))
  refine go_blk (pc2 := 2) (L2 := [.ref 22, .int (nI s), .int 0]) (st2 := []) (M2 := (A, G, PF)) (hs2 := []) (C := True) [(.iconst 0, 0, 0), (.istore_n 2, 0, 0)] [] (by decide +kernel) rfl trivial ?_
  exact lp_X1_isOpenSomewhere l A G s hs 0 (by omega) (fun p2 h2 => absurd h2 (by omega))
def lit (A : Nat → Nat → Int32) (i : Nat) : Nat := (A 10 i).toNatClampNeg
def LitOk (A : Nat → Nat → Int32) : Prop := ∀ i, i < 24 → A 10 i = -1 ∨ (lit A i < 10 ∧ A 10 i = nI (lit A i))
def LitH (A : Nat → Nat → Int32) (s i : Nat) : Prop := ¬ A 10 i = -1 ∧ HL s (lit A i)
def ClS (A : Nat → Nat → Int32) (s st : Nat) : Prop := ∃ i, st ≤ i ∧ i < st + 3 ∧ LitH A s i
def SatC (A : Nat → Nat → Int32) (s ncl : Nat) : Prop := ∀ n, n < ncl → ClS A s (n * 3)
set_option maxRecDepth 100000 in
set_option maxHeartbeats 4000000 in
theorem lp_X2_isSatisfiedBy (l : Launch) (A : Nat → Nat → Int32) (G : Nat → Nat → Int64) (hL : LitOk A) (s : Nat) (hs : s < 32) (st : Nat) (hst : st ≤ 21) (x : Int32) (hx : x = nI st) : ∀ i, i ≤ st + 3 → (st ≤ i ∧ ∀ i2, st ≤ i2 → i2 < i → ¬ LitH A s i2) → Go l ro0 mX2_isSatisfiedBy 27 (A, G, PF) 19 [.ref 9, .int (nI s), .int x, .int (nI i)] [] 27 (pv (bi (ClS A s st)) (A, G, PF)) := by
  refine down (st + 3) (fun i hk ih hinv  => ?_)
  refine go_blk (pc2 := 23) (L2 := [.ref 9, .int (nI s), .int x, .int (nI i)]) (st2 := [.int (x + 3), .int (nI i)]) (M2 := (A, G, PF)) (hs2 := []) (C := True) [(.iload_n 3, 0, 0), (.iload_n 2, 0, 0), (.iconst 3, 0, 0), (.iadd, 0, 0)] [] (by decide +kernel) rfl trivial ?_
  refine go_cmp (cnd := .ge) (off := 34) 57 (by decide +kernel) (by decide) (fun (c1 : (x + 3) ≤ (nI i)) => ?_) (fun (c1 : ¬ (x + 3) ≤ (nI i)) => ?_)
  · skip
    replace c1 : (st + 3) ≤ i := (nx_le (a := (st + 3)) (b := i) (by first | rfl | (simp only [hx, nI, Int32.ofNat_add, Int32.ofNat_mul]; done) | (simp only [hx, nI, Int32.ofNat_add, Int32.ofNat_mul]; rfl)) rfl (by omega) (by omega)).mp c1
    refine go_blk (pc2 := 58) (L2 := [.ref 9, .int (nI s), .int x, .int (nI i)]) (st2 := [.int 0]) (M2 := (A, G, PF)) (hs2 := []) (C := True) [(.iconst 0, 0, 0)] [] (by decide +kernel) rfl trivial ?_
    exact go_retz (by decide +kernel) rfl (Or.inl rfl) (pv0 (fun zz => by obtain ⟨i2, h1, h2, h3⟩ := zz; exact hinv.2 i2 h1 (by omega) h3))
  · skip
    replace c1 : ¬ (st + 3) ≤ i := fun zz => c1 ((nx_le (a := (st + 3)) (b := i) (by first | rfl | (simp only [hx, nI, Int32.ofNat_add, Int32.ofNat_mul]; done) | (simp only [hx, nI, Int32.ofNat_add, Int32.ofNat_mul]; rfl)) rfl (by omega) (by omega)).mpr zz)
    have hlo := hL i (by omega)
    refine go_blk (pc2 := 33) (L2 := [.ref 9, .int (nI s), .int x, .int (nI i)]) (st2 := [.int (-1), .int (A 10 i)]) (M2 := (A, G, PF)) (hs2 := []) (C := ((nI i) = nI i ∧ i < 24) ∧ True) [(.aload_n 0, 0, 0), (.getfield 9, 2, 0), (.iload_n 3, 0, 0), (.iaload, 0, 0), (.iconst (-1), 0, 0)] [i] (by decide +kernel) rfl ⟨⟨rfl, by omega⟩, trivial⟩ ?_
    refine go_cmp (cnd := .eq) (off := 18) 51 (by decide +kernel) (by decide) (fun (c2 : (A 10 i) = (-1)) => ?_) (fun (c2 : ¬ (A 10 i) = (-1)) => ?_)
    · skip
      refine go_blk (pc2 := 54) (L2 := [.ref 9, .int (nI s), .int x, .int ((nI i) + 1)]) (st2 := []) (M2 := (A, G, PF)) (hs2 := []) (C := True) [(.iinc 3 1, 0, 0)] [] (by decide +kernel) rfl trivial ?_
      refine go_goto (off := -35) 19 (by decide +kernel) (by decide) ?_
      exact go_as (ih (by omega) (⟨by omega, fun i2 h1 h2 => by by_cases e : i2 = i; (subst e; rintro ⟨z1, z2⟩; contradiction); exact hinv.2 i2 h1 (by omega)⟩) ) rfl (by simp only [nI_1]) rfl
    · skip
      refine go_blk (pc2 := 43) (L2 := [.ref 9, .int (nI s), .int x, .int (nI i)]) (st2 := [.int (A 10 i), .int (nI s)]) (M2 := (A, G, PF)) (hs2 := []) (C := ((nI i) = nI i ∧ i < 24) ∧ True) [(.iload_n 1, 0, 0), (.aload_n 0, 0, 0), (.getfield 9, 2, 0), (.iload_n 3, 0, 0), (.iaload, 0, 0)] [i] (by decide +kernel) rfl ⟨⟨rfl, by omega⟩, trivial⟩ ?_
      refine go_call (Y2 := mX5_holdsIn) (n2 := 27) (st := []) [] [.int (nI s), .int (A 10 i)] ck_2_29 cwX5_holdsIn rfl (by decide +kernel) rfl (fun _ => rfl) (fun h => absurd rfl h) (Nat.le_of_ble_eq_true rfl) (Or.inl rfl) (fun _ _ _ h => h) (s_X5_holdsIn l A G s (lit A i) (nI s) (A 10 i) (by omega) (hlo.resolve_left (by assumption)).1 rfl (hlo.resolve_left (by assumption)).2) (fun v M2 hp3 => ?_)
      obtain ⟨rfl, rfl⟩ := hp3
      rcases Classical.em (HL s (lit A i)) with hb4 | hb4
      · rw [bi_t hb4]
        show Go l ro0 mX2_isSatisfiedBy 27 (A, G, PF) 46 [.ref 9, .int (nI s), .int x, .int (nI i)] [.int 1] 27 _
        refine go_ifz (cnd := .eq) (off := 5) 51 (by decide +kernel) (by decide) (fun (h : (1 : Int32) = 0) => absurd h (by decide)) (fun _ => ?_)
        refine go_blk (pc2 := 50) (L2 := [.ref 9, .int (nI s), .int x, .int (nI i)]) (st2 := [.int 1]) (M2 := (A, G, PF)) (hs2 := []) (C := True) [(.iconst 1, 0, 0)] [] (by decide +kernel) rfl trivial ?_
        exact go_retz (by decide +kernel) rfl (Or.inr rfl) (pv1 ⟨i, by omega, by omega, by assumption, by assumption⟩)
      · rw [bi_f hb4]
        show Go l ro0 mX2_isSatisfiedBy 27 (A, G, PF) 46 [.ref 9, .int (nI s), .int x, .int (nI i)] [.int 0] 27 _
        refine go_ifz (cnd := .eq) (off := 5) 51 (by decide +kernel) (by decide) (fun _ => ?_) (fun (h : ¬ (0 : Int32) = 0) => absurd h (by decide))
        refine go_blk (pc2 := 54) (L2 := [.ref 9, .int (nI s), .int x, .int ((nI i) + 1)]) (st2 := []) (M2 := (A, G, PF)) (hs2 := []) (C := True) [(.iinc 3 1, 0, 0)] [] (by decide +kernel) rfl trivial ?_
        refine go_goto (off := -35) 19 (by decide +kernel) (by decide) ?_
        exact go_as (ih (by omega) (⟨by omega, fun i2 h1 h2 => by by_cases e : i2 = i; (subst e; rintro ⟨z1, z2⟩; contradiction); exact hinv.2 i2 h1 (by omega)⟩) ) rfl (by simp only [nI_1]) rfl
set_option maxRecDepth 100000 in
set_option maxHeartbeats 4000000 in
theorem s_X2_isSatisfiedBy (l : Launch) (A : Nat → Nat → Int32) (G : Nat → Nat → Int64) (hL : LitOk A) (s : Nat) (hs : s < 32) (st : Nat) (hst : st ≤ 21) (x : Int32) (hx : x = nI st) : Sem l mX2_isSatisfiedBy [.ref 9, .int (nI s), .int x] 27 (A, G, PF) 27 (pv (bi (ClS A s st)) (A, G, PF)) := by
  refine sem_of_go (by decide) rfl (by decide) (by decide) rfl (Nat.le_of_ble_eq_true rfl) ?_
  show Go l ro0 mX2_isSatisfiedBy 27 (A, G, PF) 0 [.ref 9, .int (nI s), .int x, .null] [] 27 (pv (bi (ClS A s st)) (A, G, PF))
  refine go_blk (pc2 := 1) (L2 := [.ref 9, .int (nI s), .int x, .null]) (st2 := [.int x]) (M2 := (A, G, PF)) (hs2 := []) (C := True) [(.iload_n 2, 0, 0)] [] (by decide +kernel) rfl trivial ?_
  refine go_ifz (cnd := .lt) (off := 14) 15 (by decide +kernel) (by decide) (fun (h : x < 0) => absurd h (fun zz => absurd ((nx_lt (a := st) (b := 0) hx rfl (by omega) (by omega)).mp zz) (by omega))) (fun _ => ?_)
  refine go_blk (pc2 := 12) (L2 := [.ref 9, .int (nI s), .int x, .null]) (st2 := [.int ((nI 24) - 3), .int x]) (M2 := (A, G, PF)) (hs2 := []) (C := True) [(.iload_n 2, 0, 0), (.aload_n 0, 0, 0), (.getfield 9, 2, 0), (.arraylength, 0, 0), (.iconst 3, 0, 0), (.isub, 0, 0)] [] (by decide +kernel) rfl trivial ?_
  refine go_cmp (cnd := .le) (off := 5) 17 (by decide +kernel) (by decide) (fun _ => ?_) (fun (h : ¬ x ≤ ((nI 24) - 3)) => absurd h (by rw [hx]; exact fun zz => zz ((nI_leI (a := st) (b := 21) (by omega) (by decide)).mpr hst)))
  refine go_blk (pc2 := 19) (L2 := [.ref 9, .int (nI s), .int x, .int x]) (st2 := []) (M2 := (A, G, PF)) (hs2 := []) (C := True) [(.iload_n 2, 0, 0), (.istore_n 3, 0, 0)] [] (by decide +kernel) rfl trivial ?_
  exact go_as (lp_X2_isSatisfiedBy l A G hL s hs st hst x hx st (by omega) ⟨by omega, fun i2 h1 h2 => absurd h2 (by omega)⟩) rfl (by rw [hx]) rfl
set_option maxRecDepth 100000 in
set_option maxHeartbeats 4000000 in
theorem lp_X2_areSatisfiedBy (l : Launch) (A : Nat → Nat → Int32) (G : Nat → Nat → Int64) (hL : LitOk A) (ncl : Nat) (hn : A 9 2 = nI ncl) (hn8 : ncl ≤ 8) (s : Nat) (hs : s < 32) : ∀ n, n ≤ ncl → (∀ n2, n2 < n → ClS A s (n2 * 3)) → Go l ro0 mX2_areSatisfiedBy 27 (A, G, PF) 2 [.ref 9, .int (nI s), .int (nI n)] [] 27 (pv (bi (SatC A s ncl)) (A, G, PF)) := by
  refine down ncl (fun n hk ih hinv  => ?_)
  refine go_blk (pc2 := 7) (L2 := [.ref 9, .int (nI s), .int (nI n)]) (st2 := [.int (A 9 2), .int (nI n)]) (M2 := (A, G, PF)) (hs2 := []) (C := True) [(.iload_n 2, 0, 0), (.aload_n 0, 0, 0), (.getfield 18, 2, 2)] [] (by decide +kernel) rfl trivial ?_
  refine go_cmp (cnd := .ge) (off := 28) 35 (by decide +kernel) (by decide) (fun (c1 : (A 9 2) ≤ (nI n)) => ?_) (fun (c1 : ¬ (A 9 2) ≤ (nI n)) => ?_)
  · skip
    replace c1 : ncl ≤ n := (nx_le (a := ncl) (b := n) hn rfl (by omega) (by omega)).mp c1
    refine go_blk (pc2 := 36) (L2 := [.ref 9, .int (nI s), .int (nI n)]) (st2 := [.int 1]) (M2 := (A, G, PF)) (hs2 := []) (C := True) [(.iconst 1, 0, 0)] [] (by decide +kernel) rfl trivial ?_
    exact go_retz (by decide +kernel) rfl (Or.inr rfl) (pv1 (fun n2 h2 => hinv n2 (by omega)))
  · skip
    replace c1 : ¬ ncl ≤ n := fun zz => c1 ((nx_le (a := ncl) (b := n) hn rfl (by omega) (by omega)).mpr zz)
    refine go_blk (pc2 := 13) (L2 := [.ref 9, .int (nI s), .int (nI n)]) (st2 := [.int 8, .int (nI n)]) (M2 := (A, G, PF)) (hs2 := []) (C := True) [(.iload_n 2, 0, 0), (.bipush 8, 0, 0)] [] (by decide +kernel) rfl trivial ?_
    refine go_cmp (cnd := .ge) (off := 22) 35 (by decide +kernel) (by decide) (fun (h : 8 ≤ (nI n)) => absurd h (fun zz => absurd ((nx_le (a := 8) (b := n) rfl rfl (by omega) (by omega)).mp zz) (by omega))) (fun _ => ?_)
    refine go_blk (pc2 := 21) (L2 := [.ref 9, .int (nI s), .int (nI n)]) (st2 := [.int ((nI n) * 3), .int (nI s), .ref 9]) (M2 := (A, G, PF)) (hs2 := []) (C := True) [(.aload_n 0, 0, 0), (.iload_n 1, 0, 0), (.iload_n 2, 0, 0), (.iconst 3, 0, 0), (.imul, 0, 0)] [] (by decide +kernel) rfl trivial ?_
    refine go_call (Y2 := mX2_isSatisfiedBy) (n2 := 27) (st := []) [.ref 9] [.int (nI s), .int ((nI n) * 3)] ck_2_25 cwX2_isSatisfiedBy rfl (by decide +kernel) rfl (fun h => absurd h (by decide)) (fun _ => ⟨9, rfl, by decide, rfl⟩) (Nat.le_of_ble_eq_true rfl) (Or.inl rfl) (fun _ _ _ h => h) (s_X2_isSatisfiedBy l A G hL s (by omega) (n * 3) (by omega) ((nI n) * 3) (by first | rfl | (simp only [nI, Int32.ofNat_add, Int32.ofNat_mul]; done) | (simp only [nI, Int32.ofNat_add, Int32.ofNat_mul]; rfl))) (fun v M2 hp2 => ?_)
    obtain ⟨rfl, rfl⟩ := hp2
    rcases Classical.em (ClS A s (n * 3)) with hb3 | hb3
    · rw [bi_t hb3]
      show Go l ro0 mX2_areSatisfiedBy 27 (A, G, PF) 24 [.ref 9, .int (nI s), .int (nI n)] [.int 1] 27 _
      refine go_ifz (cnd := .ne) (off := 5) 29 (by decide +kernel) (by decide) (fun _ => ?_) (fun (h : (1 : Int32) = 0) => absurd h (by decide))
      refine go_blk (pc2 := 32) (L2 := [.ref 9, .int (nI s), .int ((nI n) + 1)]) (st2 := []) (M2 := (A, G, PF)) (hs2 := []) (C := True) [(.iinc 2 1, 0, 0)] [] (by decide +kernel) rfl trivial ?_
      refine go_goto (off := -30) 2 (by decide +kernel) (by decide) ?_
      exact go_as (ih (by omega) (fun n2 h2 => by by_cases e : n2 = n; (subst e; assumption); exact hinv n2 (by omega)) ) rfl (by simp only [nI_1]) rfl
    · rw [bi_f hb3]
      show Go l ro0 mX2_areSatisfiedBy 27 (A, G, PF) 24 [.ref 9, .int (nI s), .int (nI n)] [.int 0] 27 _
      refine go_ifz (cnd := .ne) (off := 5) 29 (by decide +kernel) (by decide) (fun (h : ¬ (0 : Int32) = 0) => absurd h (by decide)) (fun _ => ?_)
      refine go_blk (pc2 := 28) (L2 := [.ref 9, .int (nI s), .int (nI n)]) (st2 := [.int 0]) (M2 := (A, G, PF)) (hs2 := []) (C := True) [(.iconst 0, 0, 0)] [] (by decide +kernel) rfl trivial ?_
      exact go_retz (by decide +kernel) rfl (Or.inl rfl) (pv0 (fun zz => absurd (zz n (by omega)) (by assumption)))
set_option maxRecDepth 100000 in
set_option maxHeartbeats 4000000 in
theorem s_X2_areSatisfiedBy (l : Launch) (A : Nat → Nat → Int32) (G : Nat → Nat → Int64) (hL : LitOk A) (ncl : Nat) (hn : A 9 2 = nI ncl) (hn8 : ncl ≤ 8) (s : Nat) (hs : s < 32) : Sem l mX2_areSatisfiedBy [.ref 9, .int (nI s)] 27 (A, G, PF) 27 (pv (bi (SatC A s ncl)) (A, G, PF)) := by
  refine sem_of_go (by decide) rfl (by decide) (by decide) rfl (Nat.le_of_ble_eq_true rfl) ?_
  show Go l ro0 mX2_areSatisfiedBy 27 (A, G, PF) 0 [.ref 9, .int (nI s), .null] [] 27 (pv (bi (SatC A s ncl)) (A, G, PF))
  refine go_blk (pc2 := 2) (L2 := [.ref 9, .int (nI s), .int 0]) (st2 := []) (M2 := (A, G, PF)) (hs2 := []) (C := True) [(.iconst 0, 0, 0), (.istore_n 2, 0, 0)] [] (by decide +kernel) rfl trivial ?_
  exact lp_X2_areSatisfiedBy l A G hL ncl hn hn8 s hs 0 (by omega) (fun n2 h2 => absurd h2 (by omega))
set_option maxRecDepth 100000 in
set_option maxHeartbeats 4000000 in
theorem s_X2_size (l : Launch) (A : Nat → Nat → Int32) (G : Nat → Nat → Int64) : Sem l mX2_size [.ref 9] 27 (A, G, PF) 27 (pv (A 9 2) (A, G, PF)) := by
  refine sem_of_go (by decide) rfl (by decide) (by decide) rfl (Nat.le_of_ble_eq_true rfl) ?_
  show Go l ro0 mX2_size 27 (A, G, PF) 0 [.ref 9] [] 27 (pv (A 9 2) (A, G, PF))
  refine go_blk (pc2 := 4) (L2 := [.ref 9]) (st2 := [.int (A 9 2)]) (M2 := (A, G, PF)) (hs2 := []) (C := True) [(.aload_n 0, 0, 0), (.getfield 18, 2, 2)] [] (by decide +kernel) rfl trivial ?_
  exact go_reti (by decide +kernel) rfl (⟨rfl, rfl⟩)
set_option maxRecDepth 100000 in
set_option maxHeartbeats 4000000 in
theorem s_X2_level (l : Launch) (A : Nat → Nat → Int32) (G : Nat → Nat → Int64) : Sem l mX2_level [.ref 9] 27 (A, G, PF) 27 (pv (A 9 3) (A, G, PF)) := by
  refine sem_of_go (by decide) rfl (by decide) (by decide) rfl (Nat.le_of_ble_eq_true rfl) ?_
  show Go l ro0 mX2_level 27 (A, G, PF) 0 [.ref 9] [] 27 (pv (A 9 3) (A, G, PF))
  refine go_blk (pc2 := 4) (L2 := [.ref 9]) (st2 := [.int (A 9 3)]) (M2 := (A, G, PF)) (hs2 := []) (C := True) [(.aload_n 0, 0, 0), (.getfield 22, 2, 3)] [] (by decide +kernel) rfl trivial ?_
  exact go_reti (by decide +kernel) rfl (⟨rfl, rfl⟩)
set_option maxRecDepth 100000 in
set_option maxHeartbeats 4000000 in
theorem s_X2_add (l : Launch) (A : Nat → Nat → Int32) (G : Nat → Nat → Int64) (ncl : Nat) (hn : A 9 2 = nI ncl) (hn8 : ncl ≤ 8) (p q r1 : Int32) : Sem l mX2_add [.ref 9, .int p, .int q, .int r1] 27 (A, G, PF) 27 (fun r M2 => (ncl < 8 ∧ r = some (.int 1) ∧ M2 = ((u2 (u2 (u2 (u2 A 10 (ncl * 3) p) 10 (ncl * 3 + 1) q) 10 (ncl * 3 + 2) r1) 9 2 (A 9 2 + 1)), G, PF)) ∨ (ncl = 8 ∧ r = some (.int 0) ∧ M2 = (A, G, PF))) := by
  refine sem_of_go (by decide) rfl (by decide) (by decide) rfl (Nat.le_of_ble_eq_true rfl) ?_
  show Go l ro0 mX2_add 27 (A, G, PF) 0 [.ref 9, .int p, .int q, .int r1, .null] [] 27 (fun r M2 => (ncl < 8 ∧ r = some (.int 1) ∧ M2 = ((u2 (u2 (u2 (u2 A 10 (ncl * 3) p) 10 (ncl * 3 + 1) q) 10 (ncl * 3 + 2) r1) 9 2 (A 9 2 + 1)), G, PF)) ∨ (ncl = 8 ∧ r = some (.int 0) ∧ M2 = (A, G, PF)))
  refine go_blk (pc2 := 4) (L2 := [.ref 9, .int p, .int q, .int r1, .null]) (st2 := [.int (A 9 2)]) (M2 := (A, G, PF)) (hs2 := []) (C := True) [(.aload_n 0, 0, 0), (.getfield 18, 2, 2)] [] (by decide +kernel) rfl trivial ?_
  refine go_ifz (cnd := .lt) (off := 12) 16 (by decide +kernel) (by decide) (fun (h : (A 9 2) < 0) => absurd h (fun zz => absurd ((nx_lt (a := ncl) (b := 0) hn rfl (by omega) (by omega)).mp zz) (by omega))) (fun _ => ?_)
  refine go_blk (pc2 := 13) (L2 := [.ref 9, .int p, .int q, .int r1, .null]) (st2 := [.int 8, .int (A 9 2)]) (M2 := (A, G, PF)) (hs2 := []) (C := True) [(.aload_n 0, 0, 0), (.getfield 18, 2, 2), (.bipush 8, 0, 0)] [] (by decide +kernel) rfl trivial ?_
  refine go_cmp (cnd := .lt) (off := 5) 18 (by decide +kernel) (by decide) (fun (c1 : (A 9 2) < 8) => ?_) (fun (c1 : ¬ (A 9 2) < 8) => ?_)
  · skip
    replace c1 : ncl < 8 := (nx_lt (a := ncl) (b := 8) hn rfl (by omega) (by omega)).mp c1
    refine go_blk (pc2 := 65) (L2 := [.ref 9, .int p, .int q, .int r1, .int ((A 9 2) * 3)]) (st2 := [.int 1]) (M2 := ((u2 (u2 (u2 (u2 A 10 (ncl * 3) p) 10 ((ncl * 3) + 1) q) 10 ((ncl * 3) + 2) r1) 9 2 ((A 9 2) + 1)), G, PF)) (hs2 := []) (C := (((A 9 2) * 3) = nI (ncl * 3) ∧ (ncl * 3) < 24) ∧ ((((A 9 2) * 3) + 1) = nI ((ncl * 3) + 1) ∧ ((ncl * 3) + 1) < 24) ∧ ((((A 9 2) * 3) + 2) = nI ((ncl * 3) + 2) ∧ ((ncl * 3) + 2) < 24) ∧ True) [(.aload_n 0, 0, 0), (.getfield 18, 2, 2), (.iconst 3, 0, 0), (.imul, 0, 0), (.istore 4, 0, 0), (.aload_n 0, 0, 0), (.getfield 9, 2, 0), (.iload 4, 0, 0), (.iload_n 1, 0, 0), (.iastore, 0, 0), (.aload_n 0, 0, 0), (.getfield 9, 2, 0), (.iload 4, 0, 0), (.iconst 1, 0, 0), (.iadd, 0, 0), (.iload_n 2, 0, 0), (.iastore, 0, 0), (.aload_n 0, 0, 0), (.getfield 9, 2, 0), (.iload 4, 0, 0), (.iconst 2, 0, 0), (.iadd, 0, 0), (.iload_n 3, 0, 0), (.iastore, 0, 0), (.aload_n 0, 0, 0), (.dup, 0, 0), (.getfield 18, 2, 2), (.iconst 1, 0, 0), (.iadd, 0, 0), (.putfield 18, 2, 2), (.iconst 1, 0, 0)] [(ncl * 3), ((ncl * 3) + 1), ((ncl * 3) + 2)] (by decide +kernel) rfl ⟨⟨(by first | rfl | (simp only [hn, nI, Int32.ofNat_add, Int32.ofNat_mul]; done) | (simp only [hn, nI, Int32.ofNat_add, Int32.ofNat_mul]; rfl)), by omega⟩, ⟨(by first | rfl | (simp only [hn, nI, Int32.ofNat_add, Int32.ofNat_mul]; done) | (simp only [hn, nI, Int32.ofNat_add, Int32.ofNat_mul]; rfl)), by omega⟩, ⟨(by first | rfl | (simp only [hn, nI, Int32.ofNat_add, Int32.ofNat_mul]; done) | (simp only [hn, nI, Int32.ofNat_add, Int32.ofNat_mul]; rfl)), by omega⟩, trivial⟩ ?_
    exact go_retz (by decide +kernel) rfl (Or.inr rfl) (Or.inl ⟨by omega, rfl, rfl⟩)
  · skip
    replace c1 : ¬ ncl < 8 := fun zz => c1 ((nx_lt (a := ncl) (b := 8) hn rfl (by omega) (by omega)).mpr zz)
    refine go_blk (pc2 := 17) (L2 := [.ref 9, .int p, .int q, .int r1, .null]) (st2 := [.int 0]) (M2 := (A, G, PF)) (hs2 := []) (C := True) [(.iconst 0, 0, 0)] [] (by decide +kernel) rfl trivial ?_
    exact go_retz (by decide +kernel) rfl (Or.inl rfl) (Or.inr ⟨by omega, rfl, rfl⟩)
set_option maxRecDepth 100000 in
set_option maxHeartbeats 4000000 in
theorem s_X2_raise (l : Launch) (A : Nat → Nat → Int32) (G : Nat → Nat → Int64) (lv : Nat) (hlv : A 9 3 = nI lv) (hlv4 : lv ≤ 4) : Sem l mX2_raise [.ref 9] 27 (A, G, PF) 27 (fun r M2 => (lv < 4 ∧ r = some (.int 1) ∧ M2 = ((u2 (u2 A 11 lv (A 9 2)) 9 3 (A 9 3 + 1)), G, PF)) ∨ (lv = 4 ∧ r = some (.int 0) ∧ M2 = (A, G, PF))) := by
  refine sem_of_go (by decide) rfl (by decide) (by decide) rfl (Nat.le_of_ble_eq_true rfl) ?_
  show Go l ro0 mX2_raise 27 (A, G, PF) 0 [.ref 9] [] 27 (fun r M2 => (lv < 4 ∧ r = some (.int 1) ∧ M2 = ((u2 (u2 A 11 lv (A 9 2)) 9 3 (A 9 3 + 1)), G, PF)) ∨ (lv = 4 ∧ r = some (.int 0) ∧ M2 = (A, G, PF)))
  refine go_blk (pc2 := 4) (L2 := [.ref 9]) (st2 := [.int (A 9 3)]) (M2 := (A, G, PF)) (hs2 := []) (C := True) [(.aload_n 0, 0, 0), (.getfield 22, 2, 3)] [] (by decide +kernel) rfl trivial ?_
  refine go_ifz (cnd := .lt) (off := 11) 15 (by decide +kernel) (by decide) (fun (h : (A 9 3) < 0) => absurd h (fun zz => absurd ((nx_lt (a := lv) (b := 0) hlv rfl (by omega) (by omega)).mp zz) (by omega))) (fun _ => ?_)
  refine go_blk (pc2 := 12) (L2 := [.ref 9]) (st2 := [.int 4, .int (A 9 3)]) (M2 := (A, G, PF)) (hs2 := []) (C := True) [(.aload_n 0, 0, 0), (.getfield 22, 2, 3), (.iconst 4, 0, 0)] [] (by decide +kernel) rfl trivial ?_
  refine go_cmp (cnd := .lt) (off := 5) 17 (by decide +kernel) (by decide) (fun (c1 : (A 9 3) < 4) => ?_) (fun (c1 : ¬ (A 9 3) < 4) => ?_)
  · skip
    replace c1 : lv < 4 := (nx_lt (a := lv) (b := 4) hlv rfl (by omega) (by omega)).mp c1
    refine go_blk (pc2 := 41) (L2 := [.ref 9]) (st2 := [.int 1]) (M2 := ((u2 (u2 A 11 lv (A 9 2)) 9 3 ((A 9 3) + 1)), G, PF)) (hs2 := []) (C := ((A 9 3) = nI lv ∧ lv < 4) ∧ True) [(.aload_n 0, 0, 0), (.getfield 15, 2, 1), (.aload_n 0, 0, 0), (.getfield 22, 2, 3), (.aload_n 0, 0, 0), (.getfield 18, 2, 2), (.iastore, 0, 0), (.aload_n 0, 0, 0), (.dup, 0, 0), (.getfield 22, 2, 3), (.iconst 1, 0, 0), (.iadd, 0, 0), (.putfield 22, 2, 3), (.iconst 1, 0, 0)] [lv] (by decide +kernel) rfl ⟨⟨hlv, by omega⟩, trivial⟩ ?_
    exact go_retz (by decide +kernel) rfl (Or.inr rfl) (Or.inl ⟨by omega, rfl, rfl⟩)
  · skip
    replace c1 : ¬ lv < 4 := fun zz => c1 ((nx_lt (a := lv) (b := 4) hlv rfl (by omega) (by omega)).mpr zz)
    refine go_blk (pc2 := 16) (L2 := [.ref 9]) (st2 := [.int 0]) (M2 := (A, G, PF)) (hs2 := []) (C := True) [(.iconst 0, 0, 0)] [] (by decide +kernel) rfl trivial ?_
    exact go_retz (by decide +kernel) rfl (Or.inl rfl) (Or.inr ⟨by omega, rfl, rfl⟩)
set_option maxRecDepth 100000 in
set_option maxHeartbeats 4000000 in
theorem s_X2_lower (l : Launch) (A : Nat → Nat → Int32) (G : Nat → Nat → Int64) (lv : Nat) (hlv : A 9 3 = nI lv) (hlv4 : lv ≤ 4) : Sem l mX2_lower [.ref 9] 27 (A, G, PF) 27 (fun r M2 => (0 < lv ∧ r = some (.int 1) ∧ M2 = ((u2 (u2 A 9 3 ((A 9 3) - 1)) 9 2 (A 11 (lv - 1))), G, PF)) ∨ (lv = 0 ∧ r = some (.int 0) ∧ M2 = (A, G, PF))) := by
  refine sem_of_go (by decide) rfl (by decide) (by decide) rfl (Nat.le_of_ble_eq_true rfl) ?_
  show Go l ro0 mX2_lower 27 (A, G, PF) 0 [.ref 9] [] 27 (fun r M2 => (0 < lv ∧ r = some (.int 1) ∧ M2 = ((u2 (u2 A 9 3 ((A 9 3) - 1)) 9 2 (A 11 (lv - 1))), G, PF)) ∨ (lv = 0 ∧ r = some (.int 0) ∧ M2 = (A, G, PF)))
  have hlm : 0 < lv → A 9 3 - 1 = nI (lv - 1) := fun zz => by rw [hlv]; exact pk_sub zz
  refine go_blk (pc2 := 4) (L2 := [.ref 9]) (st2 := [.int (A 9 3)]) (M2 := (A, G, PF)) (hs2 := []) (C := True) [(.aload_n 0, 0, 0), (.getfield 22, 2, 3)] [] (by decide +kernel) rfl trivial ?_
  refine go_ifz (cnd := .le) (off := 11) 15 (by decide +kernel) (by decide) (fun (c1 : (A 9 3) ≤ 0) => ?_) (fun (c1 : ¬ (A 9 3) ≤ 0) => ?_)
  · skip
    replace c1 : lv ≤ 0 := (nx_le (a := lv) (b := 0) hlv rfl (by omega) (by omega)).mp c1
    refine go_blk (pc2 := 16) (L2 := [.ref 9]) (st2 := [.int 0]) (M2 := (A, G, PF)) (hs2 := []) (C := True) [(.iconst 0, 0, 0)] [] (by decide +kernel) rfl trivial ?_
    exact go_retz (by decide +kernel) rfl (Or.inl rfl) (Or.inr ⟨by omega, rfl, rfl⟩)
  · skip
    replace c1 : ¬ lv ≤ 0 := fun zz => c1 ((nx_le (a := lv) (b := 0) hlv rfl (by omega) (by omega)).mpr zz)
    refine go_blk (pc2 := 12) (L2 := [.ref 9]) (st2 := [.int 4, .int (A 9 3)]) (M2 := (A, G, PF)) (hs2 := []) (C := True) [(.aload_n 0, 0, 0), (.getfield 22, 2, 3), (.iconst 4, 0, 0)] [] (by decide +kernel) rfl trivial ?_
    refine go_cmp (cnd := .le) (off := 5) 17 (by decide +kernel) (by decide) (fun _ => ?_) (fun (h : ¬ (A 9 3) ≤ 4) => absurd h (fun zz => zz ((nx_le (a := lv) (b := 4) hlv rfl (by omega) (by omega)).mpr (by omega))))
    refine go_blk (pc2 := 41) (L2 := [.ref 9]) (st2 := [.int 1]) (M2 := ((u2 (u2 A 9 3 ((A 9 3) - 1)) 9 2 (A 11 (lv - 1))), G, PF)) (hs2 := []) (C := (((A 9 3) - 1) = nI (lv - 1) ∧ (lv - 1) < 4) ∧ True) [(.aload_n 0, 0, 0), (.dup, 0, 0), (.getfield 22, 2, 3), (.iconst 1, 0, 0), (.isub, 0, 0), (.putfield 22, 2, 3), (.aload_n 0, 0, 0), (.aload_n 0, 0, 0), (.getfield 15, 2, 1), (.aload_n 0, 0, 0), (.getfield 22, 2, 3), (.iaload, 0, 0), (.putfield 18, 2, 2), (.iconst 1, 0, 0)] [(lv - 1)] (by decide +kernel) rfl ⟨⟨(hlm (by omega)), by omega⟩, trivial⟩ ?_
    exact go_retz (by decide +kernel) rfl (Or.inr rfl) (Or.inl ⟨by omega, rfl, rfl⟩)
end
section
theorem lg_eq {x y : Int64} : lg_cmp x y = 0 ↔ x = y := by
  unfold lg_cmp
  by_cases h1 : y < x
  · simp only [h1, if_true]
    constructor
    · intro h; cases h
    · intro h; subst h; exact absurd h1 (Int64.lt_irrefl)
  · by_cases h2 : x = y
    · simp [h1, h2]
    · simp [h1, h2]
theorem lg_gt {x y : Int64} : 0 < lg_cmp x y ↔ y < x := by
  unfold lg_cmp
  by_cases h1 : y < x
  · simp [h1]
  · by_cases h2 : x = y
    · simp [h1, h2]
    · simp [h1, h2]
theorem lg_le {x y : Int64} : lg_cmp x y ≤ 0 ↔ x ≤ y := by
  rw [← Int32.not_lt, ← Int64.not_lt]
  exact not_congr lg_gt
theorem lg_le2 {x y : Int64} : lg_cmp x y ≤ 0 ↔ ¬ y < x := lg_le.trans Int64.not_lt.symm
theorem u2_ne {α : Type} {f : Nat → Nat → α} {o k o' k' : Nat} {v : α} (h : ¬ (o' = o ∧ k' = k)) : u2 f o k v o' k' = f o' k' := if_neg h
def vS (A : Nat → Nat → Int32) (a b c : Int32) (n : Nat) : Int64 := (((a.toInt64 * (A 17 n).toInt64) + (b.toInt64 * (A 18 n).toInt64)) + (c.toInt64 * (A 19 n).toInt64))
def dS (A : Nat → Nat → Int32) (n : Nat) : Int64 := (A 20 n).toInt64
abbrev Tr : Type := Int64 × Int64 × Int32
def ord (o1 u1 o2 u2 : Int64) : Int64 := if u2 = 0 then 1 else o1 * u2 - o2 * u1
def ccn (t : Tr) (sm dv : Int64) (sd : Int32) : Tr := if 0 < ord sm dv t.1 t.2.1 then (sm, dv, sd) else if ord sm dv t.1 t.2.1 = 0 then (t.1, t.2.1, t.2.2 ||| sd) else t
noncomputable def ccf (A : Nat → Nat → Int32) (a b c nd : Int32) : Nat → Tr
  | 0 => (0, 0, 0)
  | k + 1 => @ite Tr (fit A nd k) (Classical.propDecidable _) (ccn (ccf A a b c nd k) (vS A a b c k) (dS A k) (A 21 k)) (ccf A a b c nd k)
theorem ccf_t {A : Nat → Nat → Int32} {a b c nd : Int32} {k : Nat} (h : fit A nd k) : ccf A a b c nd (k + 1) = ccn (ccf A a b c nd k) (vS A a b c k) (dS A k) (A 21 k) := if_pos h
theorem ccf_f {A : Nat → Nat → Int32} {a b c nd : Int32} {k : Nat} (h : ¬ fit A nd k) : ccf A a b c nd (k + 1) = ccf A a b c nd k := if_neg h
def incf (t cc : Tr) (sg : Int32) : Tr := if cc.2.1 = 0 then t else if 0 < ord cc.1 cc.2.1 t.1 t.2.1 then (cc.1, cc.2.1, if (cc.2.2 &&& sg) = sg then 1 else 0) else if ord cc.1 cc.2.1 t.1 t.2.1 = 0 then (t.1, t.2.1, if (¬ t.2.2 = 0) ∨ (cc.2.2 &&& sg) = sg then 1 else 0) else t
def CcF (A : Nat → Nat → Int32) (G : Nat → Nat → Int64) (A2 : Nat → Nat → Int32) (G2 : Nat → Nat → Int64) (t : Tr) : Prop := (∀ o k, ¬ (o = 26 ∧ k = 8) → A2 o k = A o k) ∧ (∀ o k, ¬ (o = 26 ∧ (k = 6 ∨ k = 7)) → G2 o k = G o k) ∧ G2 26 6 = t.1 ∧ G2 26 7 = t.2.1 ∧ A2 26 8 = t.2.2
theorem CcF.trans {A A2 A3 : Nat → Nat → Int32} {G G2 G3 : Nat → Nat → Int64} {t t2 : Tr} (h : CcF A G A2 G2 t) (h2 : CcF A2 G2 A3 G3 t2) : CcF A G A3 G3 t2 :=
  ⟨fun o k q => (h2.1 o k q).trans (h.1 o k q), fun o k q => (h2.2.1 o k q).trans (h.2.1 o k q), h2.2.2⟩
def PkF (A : Nat → Nat → Int32) (G : Nat → Nat → Int64) (A2 : Nat → Nat → Int32) (G2 : Nat → Nat → Int64) (t : Tr) : Prop := (∀ o k, ¬ (o = 26 ∧ (k = 5 ∨ k = 8)) → A2 o k = A o k) ∧ (∀ o k, o ≠ 26 → G2 o k = G o k) ∧ G2 26 3 = t.1 ∧ G2 26 4 = t.2.1 ∧ A2 26 5 = t.2.2
theorem PkF.trans {A A2 A3 : Nat → Nat → Int32} {G G2 G3 : Nat → Nat → Int64} {t t2 : Tr} (h : PkF A G A2 G2 t) (h2 : PkF A2 G2 A3 G3 t2) : PkF A G A3 G3 t2 :=
  ⟨fun o k q => (h2.1 o k q).trans (h.1 o k q), fun o k q => (h2.2.1 o k q).trans (h.2.1 o k q), h2.2.2⟩
set_option maxRecDepth 100000 in
set_option maxHeartbeats 4000000 in
theorem s_X4_start (l : Launch) (A : Nat → Nat → Int32) (G : Nat → Nat → Int64) (a b c : Int32) : Sem l mX4_start [.ref 26, .int a, .int b, .int c] 27 (A, G, PF) 27 (pm ((u2 (u2 (u2 (u2 A 26 0 a) 26 1 b) 26 2 c) 26 5 0), (u2 (u2 G 26 3 0) 26 4 0), PF)) := by
  refine sem_of_go (by decide) rfl (by decide) (by decide) rfl (Nat.le_of_ble_eq_true rfl) ?_
  show Go l ro0 mX4_start 27 (A, G, PF) 0 [.ref 26, .int a, .int b, .int c] [] 27 (pm ((u2 (u2 (u2 (u2 A 26 0 a) 26 1 b) 26 2 c) 26 5 0), (u2 (u2 G 26 3 0) 26 4 0), PF))
  refine go_blk (pc2 := 30) (L2 := [.ref 26, .int a, .int b, .int c]) (st2 := []) (M2 := ((u2 (u2 (u2 (u2 A 26 0 a) 26 1 b) 26 2 c) 26 5 0), (u2 (u2 G 26 3 0) 26 4 0), PF)) (hs2 := []) (C := (0 = 0 ∨ 0 = 1) ∧ True) [(.aload_n 0, 0, 0), (.iload_n 1, 0, 0), (.putfield 7, 4, 0), (.aload_n 0, 0, 0), (.iload_n 2, 0, 0), (.putfield 13, 4, 1), (.aload_n 0, 0, 0), (.iload_n 3, 0, 0), (.putfield 16, 4, 2), (.aload_n 0, 0, 0), (.lconst 0, 0, 0), (.putfield 19, 4, 3), (.aload_n 0, 0, 0), (.lconst 0, 0, 0), (.putfield 23, 4, 4), (.aload_n 0, 0, 0), (.iconst 0, 0, 0), (.putfield 26, 4, 5)] [] (by decide +kernel) rfl ⟨Or.inl rfl, trivial⟩ ?_
  exact go_retv (by decide +kernel) rfl (⟨rfl, rfl⟩)
set_option maxRecDepth 100000 in
set_option maxHeartbeats 4000000 in
theorem s_X4_isFound (l : Launch) (A : Nat → Nat → Int32) (G : Nat → Nat → Int64) : Sem l mX4_isFound [.ref 26] 27 (A, G, PF) 27 (pv (bi (0 < G 26 4)) (A, G, PF)) := by
  refine sem_of_go (by decide) rfl (by decide) (by decide) rfl (Nat.le_of_ble_eq_true rfl) ?_
  show Go l ro0 mX4_isFound 27 (A, G, PF) 0 [.ref 26] [] 27 (pv (bi (0 < G 26 4)) (A, G, PF))
  refine go_blk (pc2 := 6) (L2 := [.ref 26]) (st2 := [.int (lg_cmp (G 26 4) 0)]) (M2 := (A, G, PF)) (hs2 := []) (C := True) [(.aload_n 0, 0, 0), (.getfield 23, 4, 4), (.lconst 0, 0, 0), (.lcmp, 0, 0)] [] (by decide +kernel) rfl trivial ?_
  refine go_ifz (cnd := .le) (off := 7) 13 (by decide +kernel) (by decide) (fun (c1 : (lg_cmp (G 26 4) 0) ≤ 0) => ?_) (fun (c1 : ¬ (lg_cmp (G 26 4) 0) ≤ 0) => ?_)
  · skip
    replace c1 : ¬ (0 : Int64) < (G 26 4) := lg_le2.mp c1
    refine go_blk (pc2 := 14) (L2 := [.ref 26]) (st2 := [.int 0]) (M2 := (A, G, PF)) (hs2 := []) (C := True) [(.iconst 0, 0, 0)] [] (by decide +kernel) rfl trivial ?_
    exact go_retz (by decide +kernel) rfl (Or.inl rfl) (pv0 (by assumption))
  · skip
    replace c1 : (0 : Int64) < (G 26 4) := Classical.byContradiction (fun zz => c1 (lg_le2.mpr zz))
    refine go_blk (pc2 := 10) (L2 := [.ref 26]) (st2 := [.int 1]) (M2 := (A, G, PF)) (hs2 := []) (C := True) [(.iconst 1, 0, 0)] [] (by decide +kernel) rfl trivial ?_
    refine go_goto (off := 4) 14 (by decide +kernel) (by decide) ?_
    exact go_retz (by decide +kernel) rfl (Or.inr rfl) (pv1 (by assumption))
set_option maxRecDepth 100000 in
set_option maxHeartbeats 4000000 in
theorem s_X4_isReached (l : Launch) (A : Nat → Nat → Int32) (G : Nat → Nat → Int64) (h01 : A 26 5 = 0 ∨ A 26 5 = 1) : Sem l mX4_isReached [.ref 26] 27 (A, G, PF) 27 (pv (A 26 5) (A, G, PF)) := by
  refine sem_of_go (by decide) rfl (by decide) (by decide) rfl (Nat.le_of_ble_eq_true rfl) ?_
  show Go l ro0 mX4_isReached 27 (A, G, PF) 0 [.ref 26] [] 27 (pv (A 26 5) (A, G, PF))
  refine go_blk (pc2 := 4) (L2 := [.ref 26]) (st2 := [.int (A 26 5)]) (M2 := (A, G, PF)) (hs2 := []) (C := True) [(.aload_n 0, 0, 0), (.getfield 26, 4, 5)] [] (by decide +kernel) rfl trivial ?_
  exact go_retz (by decide +kernel) rfl (h01) (⟨rfl, rfl⟩)
set_option maxRecDepth 100000 in
set_option maxHeartbeats 4000000 in
theorem s_X4_isAtMost (l : Launch) (A : Nat → Nat → Int32) (G : Nat → Nat → Int64) (d : Int32) : Sem l mX4_isAtMost [.ref 26, .int d] 27 (A, G, PF) 27 (pv (bi (G 26 3 ≤ d.toInt64 * G 26 4)) (A, G, PF)) := by
  refine sem_of_go (by decide) rfl (by decide) (by decide) rfl (Nat.le_of_ble_eq_true rfl) ?_
  show Go l ro0 mX4_isAtMost 27 (A, G, PF) 0 [.ref 26, .int d] [] 27 (pv (bi (G 26 3 ≤ d.toInt64 * G 26 4)) (A, G, PF))
  refine go_blk (pc2 := 12) (L2 := [.ref 26, .int d]) (st2 := [.int (lg_cmp (G 26 3) (d.toInt64 * (G 26 4)))]) (M2 := (A, G, PF)) (hs2 := []) (C := True) [(.aload_n 0, 0, 0), (.getfield 19, 4, 3), (.iload_n 1, 0, 0), (.i2l, 0, 0), (.aload_n 0, 0, 0), (.getfield 23, 4, 4), (.lmul, 0, 0), (.lcmp, 0, 0)] [] (by decide +kernel) rfl trivial ?_
  refine go_ifz (cnd := .gt) (off := 7) 19 (by decide +kernel) (by decide) (fun (c1 : 0 < (lg_cmp (G 26 3) (d.toInt64 * (G 26 4)))) => ?_) (fun (c1 : ¬ 0 < (lg_cmp (G 26 3) (d.toInt64 * (G 26 4)))) => ?_)
  · skip
    replace c1 : (((d.toInt64 * (G 26 4)) : Int64) < (G 26 3)) := lg_gt.mp c1
    refine go_blk (pc2 := 20) (L2 := [.ref 26, .int d]) (st2 := [.int 0]) (M2 := (A, G, PF)) (hs2 := []) (C := True) [(.iconst 0, 0, 0)] [] (by decide +kernel) rfl trivial ?_
    exact go_retz (by decide +kernel) rfl (Or.inl rfl) (pv0 (Int64.not_le.mpr (by assumption)))
  · skip
    replace c1 : ¬ (((d.toInt64 * (G 26 4)) : Int64) < (G 26 3)) := fun zz => c1 (lg_gt.mpr zz)
    refine go_blk (pc2 := 16) (L2 := [.ref 26, .int d]) (st2 := [.int 1]) (M2 := (A, G, PF)) (hs2 := []) (C := True) [(.iconst 1, 0, 0)] [] (by decide +kernel) rfl trivial ?_
    refine go_goto (off := 4) 20 (by decide +kernel) (by decide) ?_
    exact go_retz (by decide +kernel) rfl (Or.inr rfl) (pv1 (Int64.not_lt.mp (by assumption)))
set_option maxRecDepth 100000 in
set_option maxHeartbeats 4000000 in
theorem s_X4_compare (l : Launch) (A : Nat → Nat → Int32) (G : Nat → Nat → Int64) (a b c d : Int64) : Sem l mX4_compare [.long a, .long b, .long c, .long d] 27 (A, G, PF) 27 (pl (a * d - c * b) (A, G, PF)) := by
  refine sem_of_go (by decide) rfl (by decide) (by decide) rfl (Nat.le_of_ble_eq_true rfl) ?_
  show Go l ro0 mX4_compare 27 (A, G, PF) 0 [.long a, .null, .long b, .null, .long c, .null, .long d, .null] [] 27 (pl (a * d - c * b) (A, G, PF))
  refine go_blk (pc2 := 9) (L2 := [.long a, .null, .long b, .null, .long c, .null, .long d, .null]) (st2 := [.long ((a * d) - (c * b))]) (M2 := (A, G, PF)) (hs2 := []) (C := True) [(.lload_n 0, 0, 0), (.lload 6, 0, 0), (.lmul, 0, 0), (.lload 4, 0, 0), (.lload_n 2, 0, 0), (.lmul, 0, 0), (.lsub, 0, 0)] [] (by decide +kernel) rfl trivial ?_
  exact go_retl (by decide +kernel) rfl (⟨rfl, rfl⟩)
set_option maxRecDepth 100000 in
set_option maxHeartbeats 4000000 in
theorem s_X4_climbCorner (l : Launch) (A : Nat → Nat → Int32) (G : Nat → Nat → Int64) (sm dv : Int64) (sd : Int32) : Sem l mX4_climbCorner [.ref 26, .long sm, .long dv, .int sd] 27 (A, G, PF) 27 (fun r M2 => r = none ∧ ∃ A2 G2, M2 = (A2, G2, PF) ∧ CcF A G A2 G2 (ccn (G 26 6, G 26 7, A 26 8) sm dv sd)) := by
  refine sem_of_go (by decide) rfl (by decide) (by decide) rfl (Nat.le_of_ble_eq_true rfl) ?_
  show Go l ro0 mX4_climbCorner 27 (A, G, PF) 0 [.ref 26, .long sm, .null, .long dv, .null, .int sd, .null, .null] [] 27 (fun r M2 => r = none ∧ ∃ A2 G2, M2 = (A2, G2, PF) ∧ CcF A G A2 G2 (ccn (G 26 6, G 26 7, A 26 8) sm dv sd))
  refine go_blk (pc2 := 6) (L2 := [.ref 26, .long sm, .null, .long dv, .null, .int sd, .null, .null]) (st2 := [.int (lg_cmp (G 26 7) 0)]) (M2 := (A, G, PF)) (hs2 := []) (C := True) [(.aload_n 0, 0, 0), (.getfield 33, 4, 7), (.lconst 0, 0, 0), (.lcmp, 0, 0)] [] (by decide +kernel) rfl trivial ?_
  refine go_ifz (cnd := .ne) (off := 7) 13 (by decide +kernel) (by decide) (fun (c1 : ¬ (lg_cmp (G 26 7) 0) = 0) => ?_) (fun (c1 : (lg_cmp (G 26 7) 0) = 0) => ?_)
  · skip
    replace c1 : ¬ ((G 26 7 : Int64) = 0) := fun zz => c1 (lg_eq.mpr zz)
    refine go_blk (pc2 := 23) (L2 := [.ref 26, .long sm, .null, .long dv, .null, .int sd, .null, .null]) (st2 := [.long (G 26 7), .long (G 26 6), .long dv, .long sm]) (M2 := (A, G, PF)) (hs2 := []) (C := True) [(.lload_n 1, 0, 0), (.lload_n 3, 0, 0), (.aload_n 0, 0, 0), (.getfield 30, 4, 6), (.aload_n 0, 0, 0), (.getfield 33, 4, 7)] [] (by decide +kernel) rfl trivial ?_
    refine go_call (Y2 := mX4_compare) (n2 := 27) (st := []) [] [.long sm, .long dv, .long (G 26 6), .long (G 26 7)] ck_4_43 cwX4_compare rfl (by decide +kernel) rfl (fun _ => rfl) (fun h => absurd rfl h) (Nat.le_of_ble_eq_true rfl) (Or.inl rfl) (fun _ _ _ h => h) (s_X4_compare l A G sm dv (G 26 6) (G 26 7)) (fun v M2 hp2 => ?_)
    obtain ⟨rfl, rfl⟩ := hp2
    show Go l ro0 mX4_climbCorner 27 (A, G, PF) 26 [.ref 26, .long sm, .null, .long dv, .null, .int sd, .null, .null] [.long (sm * (G 26 7) - (G 26 6) * dv)] 27 _
    refine go_blk (pc2 := 32) (L2 := [.ref 26, .long sm, .null, .long dv, .null, .int sd, .long (sm * (G 26 7) - (G 26 6) * dv), .null]) (st2 := [.int (lg_cmp (sm * (G 26 7) - (G 26 6) * dv) 0)]) (M2 := (A, G, PF)) (hs2 := []) (C := True) [(.lstore 6, 0, 0), (.lload 6, 0, 0), (.lconst 0, 0, 0), (.lcmp, 0, 0)] [] (by decide +kernel) rfl trivial ?_
    refine go_ifz (cnd := .le) (off := 22) 54 (by decide +kernel) (by decide) (fun (c3 : (lg_cmp (sm * (G 26 7) - (G 26 6) * dv) 0) ≤ 0) => ?_) (fun (c3 : ¬ (lg_cmp (sm * (G 26 7) - (G 26 6) * dv) 0) ≤ 0) => ?_)
    · skip
      replace c3 : ¬ (0 : Int64) < (sm * (G 26 7) - (G 26 6) * dv) := lg_le2.mp c3
      refine go_blk (pc2 := 58) (L2 := [.ref 26, .long sm, .null, .long dv, .null, .int sd, .long (sm * (G 26 7) - (G 26 6) * dv), .null]) (st2 := [.int (lg_cmp (sm * (G 26 7) - (G 26 6) * dv) 0)]) (M2 := (A, G, PF)) (hs2 := []) (C := True) [(.lload 6, 0, 0), (.lconst 0, 0, 0), (.lcmp, 0, 0)] [] (by decide +kernel) rfl trivial ?_
      refine go_ifz (cnd := .ne) (off := 14) 72 (by decide +kernel) (by decide) (fun (c4 : ¬ (lg_cmp (sm * (G 26 7) - (G 26 6) * dv) 0) = 0) => ?_) (fun (c4 : (lg_cmp (sm * (G 26 7) - (G 26 6) * dv) 0) = 0) => ?_)
      · skip
        replace c4 : ¬ (((sm * (G 26 7) - (G 26 6) * dv) : Int64) = 0) := fun zz => c4 (lg_eq.mpr zz)
        exact go_retv (by decide +kernel) rfl (⟨rfl, _, _, rfl, by
      have ho : ccn (G 26 6, G 26 7, A 26 8) sm dv sd = (G 26 6, G 26 7, A 26 8) := by
        unfold ccn ord
        simp [*]
      rw [ho]
      exact ⟨by (intro o k hh; (try rw [u2_ne (by omega)]); (try rw [u2_ne (by omega)]); (try rfl)), by (intro o k hh; (try rw [u2_ne (by omega)]); (try rw [u2_ne (by omega)]); (try rfl)), by simp [u2], by simp [u2], by simp [u2]⟩⟩)
      · skip
        replace c4 : (((sm * (G 26 7) - (G 26 6) * dv) : Int64) = 0) := lg_eq.mp c4
        refine go_blk (pc2 := 72) (L2 := [.ref 26, .long sm, .null, .long dv, .null, .int sd, .long (sm * (G 26 7) - (G 26 6) * dv), .null]) (st2 := []) (M2 := ((u2 A 26 8 ((A 26 8) ||| sd)), G, PF)) (hs2 := []) (C := True) [(.aload_n 0, 0, 0), (.dup, 0, 0), (.getfield 36, 4, 8), (.iload 5, 0, 0), (.ior, 0, 0), (.putfield 36, 4, 8)] [] (by decide +kernel) rfl trivial ?_
        exact go_retv (by decide +kernel) rfl (⟨rfl, _, _, rfl, by
      have ho : ccn (G 26 6, G 26 7, A 26 8) sm dv sd = (G 26 6, G 26 7, A 26 8 ||| sd) := by
        unfold ccn ord
        simp [*]
      rw [ho]
      exact ⟨by (intro o k hh; (try rw [u2_ne (by omega)]); (try rw [u2_ne (by omega)]); (try rfl)), by (intro o k hh; (try rw [u2_ne (by omega)]); (try rw [u2_ne (by omega)]); (try rfl)), by simp [u2], by simp [u2], by simp [u2]⟩⟩)
    · skip
      replace c3 : (0 : Int64) < (sm * (G 26 7) - (G 26 6) * dv) := Classical.byContradiction (fun zz => c3 (lg_le2.mpr zz))
      refine go_blk (pc2 := 51) (L2 := [.ref 26, .long sm, .null, .long dv, .null, .int sd, .long (sm * (G 26 7) - (G 26 6) * dv), .null]) (st2 := []) (M2 := ((u2 A 26 8 sd), (u2 (u2 G 26 6 sm) 26 7 dv), PF)) (hs2 := []) (C := True) [(.aload_n 0, 0, 0), (.lload_n 1, 0, 0), (.putfield 30, 4, 6), (.aload_n 0, 0, 0), (.lload_n 3, 0, 0), (.putfield 33, 4, 7), (.aload_n 0, 0, 0), (.iload 5, 0, 0), (.putfield 36, 4, 8)] [] (by decide +kernel) rfl trivial ?_
      refine go_goto (off := 21) 72 (by decide +kernel) (by decide) ?_
      exact go_retv (by decide +kernel) rfl (⟨rfl, _, _, rfl, by
      have ho : ccn (G 26 6, G 26 7, A 26 8) sm dv sd = (sm, dv, sd) := by
        unfold ccn ord
        simp [*]
      rw [ho]
      exact ⟨by (intro o k hh; (try rw [u2_ne (by omega)]); (try rw [u2_ne (by omega)]); (try rfl)), by (intro o k hh; (try rw [u2_ne (by omega)]); (try rw [u2_ne (by omega)]); (try rfl)), by simp [u2], by simp [u2], by simp [u2]⟩⟩)
  · skip
    replace c1 : ((G 26 7 : Int64) = 0) := lg_eq.mp c1
    refine go_blk (pc2 := 10) (L2 := [.ref 26, .long sm, .null, .long dv, .null, .int sd, .null, .null]) (st2 := [.long 1]) (M2 := (A, G, PF)) (hs2 := []) (C := True) [(.lconst 1, 0, 0)] [] (by decide +kernel) rfl trivial ?_
    refine go_goto (off := 16) 26 (by decide +kernel) (by decide) ?_
    refine go_blk (pc2 := 32) (L2 := [.ref 26, .long sm, .null, .long dv, .null, .int sd, .long 1, .null]) (st2 := [.int (lg_cmp 1 0)]) (M2 := (A, G, PF)) (hs2 := []) (C := True) [(.lstore 6, 0, 0), (.lload 6, 0, 0), (.lconst 0, 0, 0), (.lcmp, 0, 0)] [] (by decide +kernel) rfl trivial ?_
    refine go_ifz (cnd := .le) (off := 22) 54 (by decide +kernel) (by decide) (fun (h : (lg_cmp 1 0) ≤ 0) => absurd h (by decide)) (fun _ => ?_)
    refine go_blk (pc2 := 51) (L2 := [.ref 26, .long sm, .null, .long dv, .null, .int sd, .long 1, .null]) (st2 := []) (M2 := ((u2 A 26 8 sd), (u2 (u2 G 26 6 sm) 26 7 dv), PF)) (hs2 := []) (C := True) [(.aload_n 0, 0, 0), (.lload_n 1, 0, 0), (.putfield 30, 4, 6), (.aload_n 0, 0, 0), (.lload_n 3, 0, 0), (.putfield 33, 4, 7), (.aload_n 0, 0, 0), (.iload 5, 0, 0), (.putfield 36, 4, 8)] [] (by decide +kernel) rfl trivial ?_
    refine go_goto (off := 21) 72 (by decide +kernel) (by decide) ?_
    exact go_retv (by decide +kernel) rfl (⟨rfl, _, _, rfl, by
      have ho : ccn (G 26 6, G 26 7, A 26 8) sm dv sd = (sm, dv, sd) := by
        unfold ccn ord
        simp [*]
      rw [ho]
      exact ⟨by (intro o k hh; (try rw [u2_ne (by omega)]); (try rw [u2_ne (by omega)]); (try rfl)), by (intro o k hh; (try rw [u2_ne (by omega)]); (try rw [u2_ne (by omega)]); (try rfl)), by simp [u2], by simp [u2], by simp [u2]⟩⟩)
set_option maxRecDepth 100000 in
set_option maxHeartbeats 4000000 in
theorem lp_X4_climbCell (l : Launch) (A : Nat → Nat → Int32) (G : Nat → Nat → Int64) (cnt : Nat) (hc : A 12 9 = nI cnt) (hc364 : cnt ≤ 364) (nd : Int32) : ∀ k, k ≤ cnt → ∀ A2 G2, CcF A G A2 G2 (ccf A (A 26 0) (A 26 1) (A 26 2) nd k) → ∀ j : Value, Go l ro0 mX4_climbCell 27 (A2, G2, PF) 17 [.ref 26, .ref 12, .int nd, .int (nI k), j] [] 27 (fun r M2 => r = none ∧ ∃ A2 G2, M2 = (A2, G2, PF) ∧ CcF A G A2 G2 (ccf A (A 26 0) (A 26 1) (A 26 2) nd cnt)) := by
  refine down cnt (fun k hk ih A2 G2 hI j => ?_)
  have hcnt2 : A2 12 9 = nI cnt := by rw [hI.1 12 9 (by omega)]; exact hc
  have e17 : A2 17 k = A 17 k := hI.1 17 k (by omega)
  have e18 : A2 18 k = A 18 k := hI.1 18 k (by omega)
  have e19 : A2 19 k = A 19 k := hI.1 19 k (by omega)
  have e20 : A2 20 k = A 20 k := hI.1 20 k (by omega)
  have e21 : A2 21 k = A 21 k := hI.1 21 k (by omega)
  have e26a : A2 26 0 = A 26 0 := hI.1 26 0 (by omega)
  have e26b : A2 26 1 = A 26 1 := hI.1 26 1 (by omega)
  have e26c : A2 26 2 = A 26 2 := hI.1 26 2 (by omega)
  refine go_blk (pc2 := 19) (L2 := [.ref 26, .ref 12, .int nd, .int (nI k), j]) (st2 := [.ref 12, .int (nI k)]) (M2 := (A2, G2, PF)) (hs2 := []) (C := True) [(.iload_n 3, 0, 0), (.aload_n 1, 0, 0)] [] (by decide +kernel) rfl trivial ?_
  refine go_call (Y2 := mX3_count) (n2 := 27) (st := [.int (nI k)]) [.ref 12] [] ck_4_47 cwX3_count rfl (by decide +kernel) rfl (fun h => absurd h (by decide)) (fun _ => ⟨12, rfl, by decide, rfl⟩) (Nat.le_of_ble_eq_true rfl) (Or.inl rfl) (fun _ _ _ h => h) (s_X3_count l A2 G2) (fun v M2 hp1 => ?_)
  obtain ⟨rfl, rfl⟩ := hp1
  show Go l ro0 mX4_climbCell 27 (A2, G2, PF) 22 [.ref 26, .ref 12, .int nd, .int (nI k), j] [.int (A2 12 9), .int (nI k)] 27 _
  refine go_cmp (cnd := .ge) (off := 53) 75 (by decide +kernel) (by decide) (fun (c2 : (A2 12 9) ≤ (nI k)) => ?_) (fun (c2 : ¬ (A2 12 9) ≤ (nI k)) => ?_)
  · skip
    replace c2 : cnt ≤ k := (nx_le (a := cnt) (b := k) hcnt2 rfl (by omega) (by omega)).mp c2
    exact go_retv (by decide +kernel) rfl (⟨rfl, A2, G2, rfl, by rw [show cnt = k by omega]; exact hI⟩)
  · skip
    replace c2 : ¬ cnt ≤ k := fun zz => c2 ((nx_le (a := cnt) (b := k) hcnt2 rfl (by omega) (by omega)).mpr zz)
    refine go_blk (pc2 := 27) (L2 := [.ref 26, .ref 12, .int nd, .int (nI k), j]) (st2 := [.int (nI k), .ref 12]) (M2 := (A2, G2, PF)) (hs2 := []) (C := True) [(.aload_n 1, 0, 0), (.iload_n 3, 0, 0)] [] (by decide +kernel) rfl trivial ?_
    refine go_call (Y2 := mX3_sidesOf) (n2 := 27) (st := []) [.ref 12] [.int (nI k)] ck_4_53 cwX3_sidesOf rfl (by decide +kernel) rfl (fun h => absurd h (by decide)) (fun _ => ⟨12, rfl, by decide, rfl⟩) (Nat.le_of_ble_eq_true rfl) (Or.inl rfl) (fun _ _ _ h => h) (s_X3_sidesOf l A2 G2 k (by omega)) (fun v M2 hp3 => ?_)
    obtain ⟨rfl, rfl⟩ := hp3
    show Go l ro0 mX4_climbCell 27 (A2, G2, PF) 30 [.ref 26, .ref 12, .int nd, .int (nI k), j] [.int (A2 21 k)] 27 _
    refine go_blk (pc2 := 37) (L2 := [.ref 26, .ref 12, .int nd, .int (nI k), .int (A2 21 k)]) (st2 := [.int nd, .int ((A2 21 k) &&& nd)]) (M2 := (A2, G2, PF)) (hs2 := []) (C := True) [(.istore 4, 0, 0), (.iload 4, 0, 0), (.iload_n 2, 0, 0), (.iand, 0, 0), (.iload_n 2, 0, 0)] [] (by decide +kernel) rfl trivial ?_
    refine go_cmp (cnd := .ne) (off := 32) 69 (by decide +kernel) (by decide) (fun (c4 : ¬ ((A2 21 k) &&& nd) = nd) => ?_) (fun (c4 : ((A2 21 k) &&& nd) = nd) => ?_)
    · skip
      replace c4 : ¬ fit A nd k := by rw [e21] at c4; exact c4
      refine go_blk (pc2 := 72) (L2 := [.ref 26, .ref 12, .int nd, .int ((nI k) + 1), .int (A2 21 k)]) (st2 := []) (M2 := (A2, G2, PF)) (hs2 := []) (C := True) [(.iinc 3 1, 0, 0)] [] (by decide +kernel) rfl trivial ?_
      refine go_goto (off := -55) 17 (by decide +kernel) (by decide) ?_
      exact go_as (ih (by omega) A2 G2 (by rw [ccf_f (by assumption)]; exact hI) (.int (A2 21 k))) rfl (by simp only [nI_1]) rfl
    · skip
      replace c4 : fit A nd k := by rw [e21] at c4; exact c4
      refine go_blk (pc2 := 55) (L2 := [.ref 26, .ref 12, .int nd, .int (nI k), .int (A2 21 k)]) (st2 := [.int (A2 26 2), .int (A2 26 1), .int (A2 26 0), .int (nI k), .ref 12, .ref 26]) (M2 := (A2, G2, PF)) (hs2 := []) (C := True) [(.aload_n 0, 0, 0), (.aload_n 1, 0, 0), (.iload_n 3, 0, 0), (.aload_n 0, 0, 0), (.getfield 7, 4, 0), (.aload_n 0, 0, 0), (.getfield 13, 4, 1), (.aload_n 0, 0, 0), (.getfield 16, 4, 2)] [] (by decide +kernel) rfl trivial ?_
      refine go_call (Y2 := mX3_sumAt) (n2 := 27) (st := [.ref 26]) [.ref 12] [.int (nI k), .int (A2 26 0), .int (A2 26 1), .int (A2 26 2)] ck_4_57 cwX3_sumAt rfl (by decide +kernel) rfl (fun h => absurd h (by decide)) (fun _ => ⟨12, rfl, by decide, rfl⟩) (Nat.le_of_ble_eq_true rfl) (Or.inl rfl) (fun _ _ _ h => h) (s_X3_sumAt l A2 G2 k (by omega) (A2 26 0) (A2 26 1) (A2 26 2)) (fun v M2 hp5 => ?_)
      obtain ⟨rfl, rfl⟩ := hp5
      show Go l ro0 mX4_climbCell 27 (A2, G2, PF) 58 [.ref 26, .ref 12, .int nd, .int (nI k), .int (A2 21 k)] [.long ((((A2 26 0).toInt64 * (A2 17 k).toInt64) + ((A2 26 1).toInt64 * (A2 18 k).toInt64)) + ((A2 26 2).toInt64 * (A2 19 k).toInt64)), .ref 26] 27 _
      refine go_blk (pc2 := 60) (L2 := [.ref 26, .ref 12, .int nd, .int (nI k), .int (A2 21 k)]) (st2 := [.int (nI k), .ref 12, .long ((((A2 26 0).toInt64 * (A2 17 k).toInt64) + ((A2 26 1).toInt64 * (A2 18 k).toInt64)) + ((A2 26 2).toInt64 * (A2 19 k).toInt64)), .ref 26]) (M2 := (A2, G2, PF)) (hs2 := []) (C := True) [(.aload_n 1, 0, 0), (.iload_n 3, 0, 0)] [] (by decide +kernel) rfl trivial ?_
      refine go_call (Y2 := mX3_divisorOf) (n2 := 27) (st := [.long ((((A2 26 0).toInt64 * (A2 17 k).toInt64) + ((A2 26 1).toInt64 * (A2 18 k).toInt64)) + ((A2 26 2).toInt64 * (A2 19 k).toInt64)), .ref 26]) [.ref 12] [.int (nI k)] ck_4_61 cwX3_divisorOf rfl (by decide +kernel) rfl (fun h => absurd h (by decide)) (fun _ => ⟨12, rfl, by decide, rfl⟩) (Nat.le_of_ble_eq_true rfl) (Or.inl rfl) (fun _ _ _ h => h) (s_X3_divisorOf l A2 G2 k (by omega)) (fun v M2 hp6 => ?_)
      obtain ⟨rfl, rfl⟩ := hp6
      show Go l ro0 mX4_climbCell 27 (A2, G2, PF) 63 [.ref 26, .ref 12, .int nd, .int (nI k), .int (A2 21 k)] [.int (A2 20 k), .long ((((A2 26 0).toInt64 * (A2 17 k).toInt64) + ((A2 26 1).toInt64 * (A2 18 k).toInt64)) + ((A2 26 2).toInt64 * (A2 19 k).toInt64)), .ref 26] 27 _
      refine go_blk (pc2 := 66) (L2 := [.ref 26, .ref 12, .int nd, .int (nI k), .int (A2 21 k)]) (st2 := [.int (A2 21 k), .long ((A2 20 k).toInt64), .long ((((A2 26 0).toInt64 * (A2 17 k).toInt64) + ((A2 26 1).toInt64 * (A2 18 k).toInt64)) + ((A2 26 2).toInt64 * (A2 19 k).toInt64)), .ref 26]) (M2 := (A2, G2, PF)) (hs2 := []) (C := True) [(.i2l, 0, 0), (.iload 4, 0, 0)] [] (by decide +kernel) rfl trivial ?_
      refine go_call (Y2 := mX4_climbCorner) (n2 := 27) (st := []) [.ref 26] [.long ((((A2 26 0).toInt64 * (A2 17 k).toInt64) + ((A2 26 1).toInt64 * (A2 18 k).toInt64)) + ((A2 26 2).toInt64 * (A2 19 k).toInt64)), .long ((A2 20 k).toInt64), .int (A2 21 k)] ck_4_64 cwX4_climbCorner rfl (by decide +kernel) rfl (fun h => absurd h (by decide)) (fun _ => ⟨26, rfl, by decide, rfl⟩) (Nat.le_of_ble_eq_true rfl) (Or.inl rfl) (fun _ _ _ h => h) (s_X4_climbCorner l A2 G2 ((((A2 26 0).toInt64 * (A2 17 k).toInt64) + ((A2 26 1).toInt64 * (A2 18 k).toInt64)) + ((A2 26 2).toInt64 * (A2 19 k).toInt64)) ((A2 20 k).toInt64) (A2 21 k)) (fun v M2 hp7 => ?_)
      obtain ⟨rfl, A3, G3, rfl, hF⟩ := hp7
      show Go l ro0 mX4_climbCell 27 (A3, G3, PF) 69 [.ref 26, .ref 12, .int nd, .int (nI k), .int (A2 21 k)] [] 27 _
      refine go_blk (pc2 := 72) (L2 := [.ref 26, .ref 12, .int nd, .int ((nI k) + 1), .int (A2 21 k)]) (st2 := []) (M2 := (A3, G3, PF)) (hs2 := []) (C := True) [(.iinc 3 1, 0, 0)] [] (by decide +kernel) rfl trivial ?_
      refine go_goto (off := -55) 17 (by decide +kernel) (by decide) ?_
      exact go_as (ih (by omega) A3 G3 (by rw [ccf_t (by assumption)]; have := hI.trans hF; rw [hI.2.2.1, hI.2.2.2.1, hI.2.2.2.2, e17, e18, e19, e20, e21, e26a, e26b, e26c] at this; exact this) (.int (A2 21 k))) rfl (by simp only [nI_1]) rfl
set_option maxRecDepth 100000 in
set_option maxHeartbeats 4000000 in
theorem s_X4_climbCell (l : Launch) (A : Nat → Nat → Int32) (G : Nat → Nat → Int64) (cnt : Nat) (hc : A 12 9 = nI cnt) (hc364 : cnt ≤ 364) (nd : Int32) : Sem l mX4_climbCell [.ref 26, .ref 12, .int nd] 27 (A, G, PF) 27 (fun r M2 => r = none ∧ ∃ A2 G2, M2 = (A2, G2, PF) ∧ CcF A G A2 G2 (ccf A (A 26 0) (A 26 1) (A 26 2) nd cnt)) := by
  refine sem_of_go (by decide) rfl (by decide) (by decide) rfl (Nat.le_of_ble_eq_true rfl) ?_
  show Go l ro0 mX4_climbCell 27 (A, G, PF) 0 [.ref 26, .ref 12, .int nd, .null, .null] [] 27 (fun r M2 => r = none ∧ ∃ A2 G2, M2 = (A2, G2, PF) ∧ CcF A G A2 G2 (ccf A (A 26 0) (A 26 1) (A 26 2) nd cnt))
  refine go_blk (pc2 := 17) (L2 := [.ref 26, .ref 12, .int nd, .int 0, .null]) (st2 := []) (M2 := ((u2 A 26 8 0), (u2 (u2 G 26 6 0) 26 7 0), PF)) (hs2 := []) (C := True) [(.aload_n 0, 0, 0), (.lconst 0, 0, 0), (.putfield 30, 4, 6), (.aload_n 0, 0, 0), (.lconst 0, 0, 0), (.putfield 33, 4, 7), (.aload_n 0, 0, 0), (.iconst 0, 0, 0), (.putfield 36, 4, 8), (.iconst 0, 0, 0), (.istore_n 3, 0, 0)] [] (by decide +kernel) rfl trivial ?_
  exact lp_X4_climbCell l A G cnt hc hc364 nd 0 (by omega) _ _ ⟨by (intro o k hh; (try rw [u2_ne (by omega)]); (try rw [u2_ne (by omega)]); (try rfl)), by (intro o k hh; (try rw [u2_ne (by omega)]); (try rw [u2_ne (by omega)]); (try rfl)), by simp [u2, ccf], by simp [u2, ccf], by simp [u2, ccf]⟩ _
set_option maxRecDepth 100000 in
set_option maxHeartbeats 4000000 in
theorem s_X4_include (l : Launch) (A : Nat → Nat → Int32) (G : Nat → Nat → Int64) (cnt : Nat) (hc : A 12 9 = nI cnt) (hc364 : cnt ≤ 364) (nd sg : Int32) : Sem l mX4_include [.ref 26, .ref 12, .int nd, .int sg] 27 (A, G, PF) 27 (fun r M2 => r = none ∧ ∃ A2 G2, M2 = (A2, G2, PF) ∧ PkF A G A2 G2 (incf (G 26 3, G 26 4, A 26 5) (ccf A (A 26 0) (A 26 1) (A 26 2) nd cnt) sg)) := by
  refine sem_of_go (by decide) rfl (by decide) (by decide) rfl (Nat.le_of_ble_eq_true rfl) ?_
  show Go l ro0 mX4_include 27 (A, G, PF) 0 [.ref 26, .ref 12, .int nd, .int sg, .null, .null, .null] [] 27 (fun r M2 => r = none ∧ ∃ A2 G2, M2 = (A2, G2, PF) ∧ PkF A G A2 G2 (incf (G 26 3, G 26 4, A 26 5) (ccf A (A 26 0) (A 26 1) (A 26 2) nd cnt) sg))
  refine go_blk (pc2 := 3) (L2 := [.ref 26, .ref 12, .int nd, .int sg, .null, .null, .null]) (st2 := [.int nd, .ref 12, .ref 26]) (M2 := (A, G, PF)) (hs2 := []) (C := True) [(.aload_n 0, 0, 0), (.aload_n 1, 0, 0), (.iload_n 2, 0, 0)] [] (by decide +kernel) rfl trivial ?_
  refine go_call (Y2 := mX4_climbCell) (n2 := 27) (st := []) [.ref 26] [.ref 12, .int nd] ck_4_39 cwX4_climbCell rfl (by decide +kernel) rfl (fun h => absurd h (by decide)) (fun _ => ⟨26, rfl, by decide, rfl⟩) (Nat.le_of_ble_eq_true rfl) (Or.inl rfl) (fun _ _ _ h => h) (s_X4_climbCell l A G cnt hc hc364 nd) (fun v M2 hp1 => ?_)
  obtain ⟨rfl, A2, G2, rfl, hI⟩ := hp1
  obtain ⟨cc, ecc⟩ : ∃ z, z = ccf A (A 26 0) (A 26 1) (A 26 2) nd cnt := ⟨_, rfl⟩
  rw [← ecc] at hI
  rw [← ecc]
  clear ecc
  have g3 : G2 26 3 = G 26 3 := hI.2.1 26 3 (by omega)
  have g4 : G2 26 4 = G 26 4 := hI.2.1 26 4 (by omega)
  have g5 : A2 26 5 = A 26 5 := hI.1 26 5 (by omega)
  have g6 : G2 26 6 = cc.1 := hI.2.2.1
  have g7 : G2 26 7 = cc.2.1 := hI.2.2.2.1
  have g8 : A2 26 8 = cc.2.2 := hI.2.2.2.2
  show Go l ro0 mX4_include 27 (A2, G2, PF) 6 [.ref 26, .ref 12, .int nd, .int sg, .null, .null, .null] [] 27 _
  refine go_blk (pc2 := 12) (L2 := [.ref 26, .ref 12, .int nd, .int sg, .null, .null, .null]) (st2 := [.int (lg_cmp (G2 26 7) 0)]) (M2 := (A2, G2, PF)) (hs2 := []) (C := True) [(.aload_n 0, 0, 0), (.getfield 33, 4, 7), (.lconst 0, 0, 0), (.lcmp, 0, 0)] [] (by decide +kernel) rfl trivial ?_
  refine go_ifz (cnd := .ne) (off := 4) 16 (by decide +kernel) (by decide) (fun (c2 : ¬ (lg_cmp (G2 26 7) 0) = 0) => ?_) (fun (c2 : (lg_cmp (G2 26 7) 0) = 0) => ?_)
  · skip
    replace c2 : ¬ ((G2 26 7 : Int64) = 0) := fun zz => c2 (lg_eq.mpr zz)
    simp only [g3, g4, g5, g6, g7, g8] at c2
    refine go_blk (pc2 := 23) (L2 := [.ref 26, .ref 12, .int nd, .int sg, .null, .null, .null]) (st2 := [.int sg, .int ((A2 26 8) &&& sg)]) (M2 := (A2, G2, PF)) (hs2 := []) (C := True) [(.aload_n 0, 0, 0), (.getfield 36, 4, 8), (.iload_n 3, 0, 0), (.iand, 0, 0), (.iload_n 3, 0, 0)] [] (by decide +kernel) rfl trivial ?_
    refine go_cmp (cnd := .ne) (off := 7) 30 (by decide +kernel) (by decide) (fun (c3 : ¬ ((A2 26 8) &&& sg) = sg) => ?_) (fun (c3 : ((A2 26 8) &&& sg) = sg) => ?_)
    · skip
      simp only [g3, g4, g5, g6, g7, g8] at c3
      refine go_blk (pc2 := 39) (L2 := [.ref 26, .ref 12, .int nd, .int sg, .int 0, .null, .null]) (st2 := [.int (lg_cmp (G2 26 4) 0)]) (M2 := (A2, G2, PF)) (hs2 := []) (C := True) [(.iconst 0, 0, 0), (.istore 4, 0, 0), (.aload_n 0, 0, 0), (.getfield 23, 4, 4), (.lconst 0, 0, 0), (.lcmp, 0, 0)] [] (by decide +kernel) rfl trivial ?_
      refine go_ifz (cnd := .ne) (off := 7) 46 (by decide +kernel) (by decide) (fun (c4 : ¬ (lg_cmp (G2 26 4) 0) = 0) => ?_) (fun (c4 : (lg_cmp (G2 26 4) 0) = 0) => ?_)
      · skip
        replace c4 : ¬ ((G2 26 4 : Int64) = 0) := fun zz => c4 (lg_eq.mpr zz)
        simp only [g3, g4, g5, g6, g7, g8] at c4
        refine go_blk (pc2 := 62) (L2 := [.ref 26, .ref 12, .int nd, .int sg, .int 0, .null, .null]) (st2 := [.long (G2 26 4), .long (G2 26 3), .long (G2 26 7), .long (G2 26 6)]) (M2 := (A2, G2, PF)) (hs2 := []) (C := True) [(.aload_n 0, 0, 0), (.getfield 30, 4, 6), (.aload_n 0, 0, 0), (.getfield 33, 4, 7), (.aload_n 0, 0, 0), (.getfield 19, 4, 3), (.aload_n 0, 0, 0), (.getfield 23, 4, 4)] [] (by decide +kernel) rfl trivial ?_
        refine go_call (Y2 := mX4_compare) (n2 := 27) (st := []) [] [.long (G2 26 6), .long (G2 26 7), .long (G2 26 3), .long (G2 26 4)] ck_4_43 cwX4_compare rfl (by decide +kernel) rfl (fun _ => rfl) (fun h => absurd rfl h) (Nat.le_of_ble_eq_true rfl) (Or.inl rfl) (fun _ _ _ h => h) (s_X4_compare l A2 G2 (G2 26 6) (G2 26 7) (G2 26 3) (G2 26 4)) (fun v M2 hp5 => ?_)
        obtain ⟨rfl, rfl⟩ := hp5
        show Go l ro0 mX4_include 27 (A2, G2, PF) 65 [.ref 26, .ref 12, .int nd, .int sg, .int 0, .null, .null] [.long ((G2 26 6) * (G2 26 4) - (G2 26 3) * (G2 26 7))] 27 _
        refine go_blk (pc2 := 71) (L2 := [.ref 26, .ref 12, .int nd, .int sg, .int 0, .long ((G2 26 6) * (G2 26 4) - (G2 26 3) * (G2 26 7)), .null]) (st2 := [.int (lg_cmp ((G2 26 6) * (G2 26 4) - (G2 26 3) * (G2 26 7)) 0)]) (M2 := (A2, G2, PF)) (hs2 := []) (C := True) [(.lstore 5, 0, 0), (.lload 5, 0, 0), (.lconst 0, 0, 0), (.lcmp, 0, 0)] [] (by decide +kernel) rfl trivial ?_
        refine go_ifz (cnd := .le) (off := 28) 99 (by decide +kernel) (by decide) (fun (c6 : (lg_cmp ((G2 26 6) * (G2 26 4) - (G2 26 3) * (G2 26 7)) 0) ≤ 0) => ?_) (fun (c6 : ¬ (lg_cmp ((G2 26 6) * (G2 26 4) - (G2 26 3) * (G2 26 7)) 0) ≤ 0) => ?_)
        · skip
          replace c6 : ¬ (0 : Int64) < ((G2 26 6) * (G2 26 4) - (G2 26 3) * (G2 26 7)) := lg_le2.mp c6
          simp only [g3, g4, g5, g6, g7, g8] at c6
          refine go_blk (pc2 := 103) (L2 := [.ref 26, .ref 12, .int nd, .int sg, .int 0, .long ((G2 26 6) * (G2 26 4) - (G2 26 3) * (G2 26 7)), .null]) (st2 := [.int (lg_cmp ((G2 26 6) * (G2 26 4) - (G2 26 3) * (G2 26 7)) 0)]) (M2 := (A2, G2, PF)) (hs2 := []) (C := True) [(.lload 5, 0, 0), (.lconst 0, 0, 0), (.lcmp, 0, 0)] [] (by decide +kernel) rfl trivial ?_
          refine go_ifz (cnd := .ne) (off := 24) 127 (by decide +kernel) (by decide) (fun (c7 : ¬ (lg_cmp ((G2 26 6) * (G2 26 4) - (G2 26 3) * (G2 26 7)) 0) = 0) => ?_) (fun (c7 : (lg_cmp ((G2 26 6) * (G2 26 4) - (G2 26 3) * (G2 26 7)) 0) = 0) => ?_)
          · skip
            replace c7 : ¬ ((((G2 26 6) * (G2 26 4) - (G2 26 3) * (G2 26 7)) : Int64) = 0) := fun zz => c7 (lg_eq.mpr zz)
            simp only [g3, g4, g5, g6, g7, g8] at c7
            exact go_retv (by decide +kernel) rfl (⟨rfl, _, _, rfl, by
      have ho : incf (G 26 3, G 26 4, A 26 5) cc sg = (G 26 3, G 26 4, A 26 5) := by
        unfold incf ord
        simp [*]
      rw [ho]
      exact ⟨by (intro o k hh; (try rw [u2_ne (by omega)]); (try rw [u2_ne (by omega)])); exact hI.1 o k (by omega), by (intro o k hh; (try rw [u2_ne (by omega)]); (try rw [u2_ne (by omega)])); exact hI.2.1 o k (by omega), by simp [u2, g3, g6], by simp [u2, g4, g7], by simp [u2, g5]⟩⟩)
          · skip
            replace c7 : ((((G2 26 6) * (G2 26 4) - (G2 26 3) * (G2 26 7)) : Int64) = 0) := lg_eq.mp c7
            simp only [g3, g4, g5, g6, g7, g8] at c7
            refine go_blk (pc2 := 111) (L2 := [.ref 26, .ref 12, .int nd, .int sg, .int 0, .long ((G2 26 6) * (G2 26 4) - (G2 26 3) * (G2 26 7)), .null]) (st2 := [.int (A2 26 5), .ref 26]) (M2 := (A2, G2, PF)) (hs2 := []) (C := True) [(.aload_n 0, 0, 0), (.aload_n 0, 0, 0), (.getfield 26, 4, 5)] [] (by decide +kernel) rfl trivial ?_
            refine go_ifz (cnd := .ne) (off := 8) 119 (by decide +kernel) (by decide) (fun (c8 : ¬ (A2 26 5) = 0) => ?_) (fun (c8 : (A2 26 5) = 0) => ?_)
            · skip
              simp only [g3, g4, g5, g6, g7, g8] at c8
              refine go_blk (pc2 := 120) (L2 := [.ref 26, .ref 12, .int nd, .int sg, .int 0, .long ((G2 26 6) * (G2 26 4) - (G2 26 3) * (G2 26 7)), .null]) (st2 := [.int 1, .ref 26]) (M2 := (A2, G2, PF)) (hs2 := []) (C := True) [(.iconst 1, 0, 0)] [] (by decide +kernel) rfl trivial ?_
              refine go_goto (off := 4) 124 (by decide +kernel) (by decide) ?_
              refine go_blk (pc2 := 127) (L2 := [.ref 26, .ref 12, .int nd, .int sg, .int 0, .long ((G2 26 6) * (G2 26 4) - (G2 26 3) * (G2 26 7)), .null]) (st2 := []) (M2 := ((u2 A2 26 5 1), G2, PF)) (hs2 := []) (C := (1 = 0 ∨ 1 = 1) ∧ True) [(.putfield 26, 4, 5)] [] (by decide +kernel) rfl ⟨Or.inr rfl, trivial⟩ ?_
              exact go_retv (by decide +kernel) rfl (⟨rfl, _, _, rfl, by
      have ho : incf (G 26 3, G 26 4, A 26 5) cc sg = (G 26 3, G 26 4, 1) := by
        unfold incf ord
        simp [*]
      rw [ho]
      exact ⟨by (intro o k hh; (try rw [u2_ne (by omega)]); (try rw [u2_ne (by omega)])); exact hI.1 o k (by omega), by (intro o k hh; (try rw [u2_ne (by omega)]); (try rw [u2_ne (by omega)])); exact hI.2.1 o k (by omega), by simp [u2, g3, g6], by simp [u2, g4, g7], by simp [u2, g5]⟩⟩)
            · skip
              simp only [g3, g4, g5, g6, g7, g8] at c8
              refine go_blk (pc2 := 116) (L2 := [.ref 26, .ref 12, .int nd, .int sg, .int 0, .long ((G2 26 6) * (G2 26 4) - (G2 26 3) * (G2 26 7)), .null]) (st2 := [.int 0, .ref 26]) (M2 := (A2, G2, PF)) (hs2 := []) (C := True) [(.iload 4, 0, 0)] [] (by decide +kernel) rfl trivial ?_
              refine go_ifz (cnd := .eq) (off := 7) 123 (by decide +kernel) (by decide) (fun _ => ?_) (fun (h : ¬ (0 : Int32) = 0) => absurd h (by decide))
              refine go_blk (pc2 := 127) (L2 := [.ref 26, .ref 12, .int nd, .int sg, .int 0, .long ((G2 26 6) * (G2 26 4) - (G2 26 3) * (G2 26 7)), .null]) (st2 := []) (M2 := ((u2 A2 26 5 0), G2, PF)) (hs2 := []) (C := (0 = 0 ∨ 0 = 1) ∧ True) [(.iconst 0, 0, 0), (.putfield 26, 4, 5)] [] (by decide +kernel) rfl ⟨Or.inl rfl, trivial⟩ ?_
              exact go_retv (by decide +kernel) rfl (⟨rfl, _, _, rfl, by
      have ho : incf (G 26 3, G 26 4, A 26 5) cc sg = (G 26 3, G 26 4, 0) := by
        unfold incf ord
        simp [*]
      rw [ho]
      exact ⟨by (intro o k hh; (try rw [u2_ne (by omega)]); (try rw [u2_ne (by omega)])); exact hI.1 o k (by omega), by (intro o k hh; (try rw [u2_ne (by omega)]); (try rw [u2_ne (by omega)])); exact hI.2.1 o k (by omega), by simp [u2, g3, g6], by simp [u2, g4, g7], by simp [u2, g5]⟩⟩)
        · skip
          replace c6 : (0 : Int64) < ((G2 26 6) * (G2 26 4) - (G2 26 3) * (G2 26 7)) := Classical.byContradiction (fun zz => c6 (lg_le2.mpr zz))
          simp only [g3, g4, g5, g6, g7, g8] at c6
          refine go_blk (pc2 := 96) (L2 := [.ref 26, .ref 12, .int nd, .int sg, .int 0, .long ((G2 26 6) * (G2 26 4) - (G2 26 3) * (G2 26 7)), .null]) (st2 := []) (M2 := ((u2 A2 26 5 0), (u2 (u2 G2 26 3 (G2 26 6)) 26 4 (G2 26 7)), PF)) (hs2 := []) (C := (0 = 0 ∨ 0 = 1) ∧ True) [(.aload_n 0, 0, 0), (.aload_n 0, 0, 0), (.getfield 30, 4, 6), (.putfield 19, 4, 3), (.aload_n 0, 0, 0), (.aload_n 0, 0, 0), (.getfield 33, 4, 7), (.putfield 23, 4, 4), (.aload_n 0, 0, 0), (.iload 4, 0, 0), (.putfield 26, 4, 5)] [] (by decide +kernel) rfl ⟨Or.inl rfl, trivial⟩ ?_
          refine go_goto (off := 31) 127 (by decide +kernel) (by decide) ?_
          exact go_retv (by decide +kernel) rfl (⟨rfl, _, _, rfl, by
      have ho : incf (G 26 3, G 26 4, A 26 5) cc sg = (cc.1, cc.2.1, 0) := by
        unfold incf ord
        simp [*]
      rw [ho]
      exact ⟨by (intro o k hh; (try rw [u2_ne (by omega)]); (try rw [u2_ne (by omega)])); exact hI.1 o k (by omega), by (intro o k hh; (try rw [u2_ne (by omega)]); (try rw [u2_ne (by omega)])); exact hI.2.1 o k (by omega), by simp [u2, g3, g6], by simp [u2, g4, g7], by simp [u2, g5]⟩⟩)
      · skip
        replace c4 : ((G2 26 4 : Int64) = 0) := lg_eq.mp c4
        simp only [g3, g4, g5, g6, g7, g8] at c4
        refine go_blk (pc2 := 43) (L2 := [.ref 26, .ref 12, .int nd, .int sg, .int 0, .null, .null]) (st2 := [.long 1]) (M2 := (A2, G2, PF)) (hs2 := []) (C := True) [(.lconst 1, 0, 0)] [] (by decide +kernel) rfl trivial ?_
        refine go_goto (off := 22) 65 (by decide +kernel) (by decide) ?_
        refine go_blk (pc2 := 71) (L2 := [.ref 26, .ref 12, .int nd, .int sg, .int 0, .long 1, .null]) (st2 := [.int (lg_cmp 1 0)]) (M2 := (A2, G2, PF)) (hs2 := []) (C := True) [(.lstore 5, 0, 0), (.lload 5, 0, 0), (.lconst 0, 0, 0), (.lcmp, 0, 0)] [] (by decide +kernel) rfl trivial ?_
        refine go_ifz (cnd := .le) (off := 28) 99 (by decide +kernel) (by decide) (fun (h : (lg_cmp 1 0) ≤ 0) => absurd h (by decide)) (fun _ => ?_)
        refine go_blk (pc2 := 96) (L2 := [.ref 26, .ref 12, .int nd, .int sg, .int 0, .long 1, .null]) (st2 := []) (M2 := ((u2 A2 26 5 0), (u2 (u2 G2 26 3 (G2 26 6)) 26 4 (G2 26 7)), PF)) (hs2 := []) (C := (0 = 0 ∨ 0 = 1) ∧ True) [(.aload_n 0, 0, 0), (.aload_n 0, 0, 0), (.getfield 30, 4, 6), (.putfield 19, 4, 3), (.aload_n 0, 0, 0), (.aload_n 0, 0, 0), (.getfield 33, 4, 7), (.putfield 23, 4, 4), (.aload_n 0, 0, 0), (.iload 4, 0, 0), (.putfield 26, 4, 5)] [] (by decide +kernel) rfl ⟨Or.inl rfl, trivial⟩ ?_
        refine go_goto (off := 31) 127 (by decide +kernel) (by decide) ?_
        exact go_retv (by decide +kernel) rfl (⟨rfl, _, _, rfl, by
      have ho : incf (G 26 3, G 26 4, A 26 5) cc sg = (cc.1, cc.2.1, 0) := by
        unfold incf ord
        simp [*]
      rw [ho]
      exact ⟨by (intro o k hh; (try rw [u2_ne (by omega)]); (try rw [u2_ne (by omega)])); exact hI.1 o k (by omega), by (intro o k hh; (try rw [u2_ne (by omega)]); (try rw [u2_ne (by omega)])); exact hI.2.1 o k (by omega), by simp [u2, g3, g6], by simp [u2, g4, g7], by simp [u2, g5]⟩⟩)
    · skip
      simp only [g3, g4, g5, g6, g7, g8] at c3
      refine go_blk (pc2 := 27) (L2 := [.ref 26, .ref 12, .int nd, .int sg, .null, .null, .null]) (st2 := [.int 1]) (M2 := (A2, G2, PF)) (hs2 := []) (C := True) [(.iconst 1, 0, 0)] [] (by decide +kernel) rfl trivial ?_
      refine go_goto (off := 4) 31 (by decide +kernel) (by decide) ?_
      refine go_blk (pc2 := 39) (L2 := [.ref 26, .ref 12, .int nd, .int sg, .int 1, .null, .null]) (st2 := [.int (lg_cmp (G2 26 4) 0)]) (M2 := (A2, G2, PF)) (hs2 := []) (C := True) [(.istore 4, 0, 0), (.aload_n 0, 0, 0), (.getfield 23, 4, 4), (.lconst 0, 0, 0), (.lcmp, 0, 0)] [] (by decide +kernel) rfl trivial ?_
      refine go_ifz (cnd := .ne) (off := 7) 46 (by decide +kernel) (by decide) (fun (c9 : ¬ (lg_cmp (G2 26 4) 0) = 0) => ?_) (fun (c9 : (lg_cmp (G2 26 4) 0) = 0) => ?_)
      · skip
        replace c9 : ¬ ((G2 26 4 : Int64) = 0) := fun zz => c9 (lg_eq.mpr zz)
        simp only [g3, g4, g5, g6, g7, g8] at c9
        refine go_blk (pc2 := 62) (L2 := [.ref 26, .ref 12, .int nd, .int sg, .int 1, .null, .null]) (st2 := [.long (G2 26 4), .long (G2 26 3), .long (G2 26 7), .long (G2 26 6)]) (M2 := (A2, G2, PF)) (hs2 := []) (C := True) [(.aload_n 0, 0, 0), (.getfield 30, 4, 6), (.aload_n 0, 0, 0), (.getfield 33, 4, 7), (.aload_n 0, 0, 0), (.getfield 19, 4, 3), (.aload_n 0, 0, 0), (.getfield 23, 4, 4)] [] (by decide +kernel) rfl trivial ?_
        refine go_call (Y2 := mX4_compare) (n2 := 27) (st := []) [] [.long (G2 26 6), .long (G2 26 7), .long (G2 26 3), .long (G2 26 4)] ck_4_43 cwX4_compare rfl (by decide +kernel) rfl (fun _ => rfl) (fun h => absurd rfl h) (Nat.le_of_ble_eq_true rfl) (Or.inl rfl) (fun _ _ _ h => h) (s_X4_compare l A2 G2 (G2 26 6) (G2 26 7) (G2 26 3) (G2 26 4)) (fun v M2 hp10 => ?_)
        obtain ⟨rfl, rfl⟩ := hp10
        show Go l ro0 mX4_include 27 (A2, G2, PF) 65 [.ref 26, .ref 12, .int nd, .int sg, .int 1, .null, .null] [.long ((G2 26 6) * (G2 26 4) - (G2 26 3) * (G2 26 7))] 27 _
        refine go_blk (pc2 := 71) (L2 := [.ref 26, .ref 12, .int nd, .int sg, .int 1, .long ((G2 26 6) * (G2 26 4) - (G2 26 3) * (G2 26 7)), .null]) (st2 := [.int (lg_cmp ((G2 26 6) * (G2 26 4) - (G2 26 3) * (G2 26 7)) 0)]) (M2 := (A2, G2, PF)) (hs2 := []) (C := True) [(.lstore 5, 0, 0), (.lload 5, 0, 0), (.lconst 0, 0, 0), (.lcmp, 0, 0)] [] (by decide +kernel) rfl trivial ?_
        refine go_ifz (cnd := .le) (off := 28) 99 (by decide +kernel) (by decide) (fun (c11 : (lg_cmp ((G2 26 6) * (G2 26 4) - (G2 26 3) * (G2 26 7)) 0) ≤ 0) => ?_) (fun (c11 : ¬ (lg_cmp ((G2 26 6) * (G2 26 4) - (G2 26 3) * (G2 26 7)) 0) ≤ 0) => ?_)
        · skip
          replace c11 : ¬ (0 : Int64) < ((G2 26 6) * (G2 26 4) - (G2 26 3) * (G2 26 7)) := lg_le2.mp c11
          simp only [g3, g4, g5, g6, g7, g8] at c11
          refine go_blk (pc2 := 103) (L2 := [.ref 26, .ref 12, .int nd, .int sg, .int 1, .long ((G2 26 6) * (G2 26 4) - (G2 26 3) * (G2 26 7)), .null]) (st2 := [.int (lg_cmp ((G2 26 6) * (G2 26 4) - (G2 26 3) * (G2 26 7)) 0)]) (M2 := (A2, G2, PF)) (hs2 := []) (C := True) [(.lload 5, 0, 0), (.lconst 0, 0, 0), (.lcmp, 0, 0)] [] (by decide +kernel) rfl trivial ?_
          refine go_ifz (cnd := .ne) (off := 24) 127 (by decide +kernel) (by decide) (fun (c12 : ¬ (lg_cmp ((G2 26 6) * (G2 26 4) - (G2 26 3) * (G2 26 7)) 0) = 0) => ?_) (fun (c12 : (lg_cmp ((G2 26 6) * (G2 26 4) - (G2 26 3) * (G2 26 7)) 0) = 0) => ?_)
          · skip
            replace c12 : ¬ ((((G2 26 6) * (G2 26 4) - (G2 26 3) * (G2 26 7)) : Int64) = 0) := fun zz => c12 (lg_eq.mpr zz)
            simp only [g3, g4, g5, g6, g7, g8] at c12
            exact go_retv (by decide +kernel) rfl (⟨rfl, _, _, rfl, by
      have ho : incf (G 26 3, G 26 4, A 26 5) cc sg = (G 26 3, G 26 4, A 26 5) := by
        unfold incf ord
        simp [*]
      rw [ho]
      exact ⟨by (intro o k hh; (try rw [u2_ne (by omega)]); (try rw [u2_ne (by omega)])); exact hI.1 o k (by omega), by (intro o k hh; (try rw [u2_ne (by omega)]); (try rw [u2_ne (by omega)])); exact hI.2.1 o k (by omega), by simp [u2, g3, g6], by simp [u2, g4, g7], by simp [u2, g5]⟩⟩)
          · skip
            replace c12 : ((((G2 26 6) * (G2 26 4) - (G2 26 3) * (G2 26 7)) : Int64) = 0) := lg_eq.mp c12
            simp only [g3, g4, g5, g6, g7, g8] at c12
            refine go_blk (pc2 := 111) (L2 := [.ref 26, .ref 12, .int nd, .int sg, .int 1, .long ((G2 26 6) * (G2 26 4) - (G2 26 3) * (G2 26 7)), .null]) (st2 := [.int (A2 26 5), .ref 26]) (M2 := (A2, G2, PF)) (hs2 := []) (C := True) [(.aload_n 0, 0, 0), (.aload_n 0, 0, 0), (.getfield 26, 4, 5)] [] (by decide +kernel) rfl trivial ?_
            refine go_ifz (cnd := .ne) (off := 8) 119 (by decide +kernel) (by decide) (fun (c13 : ¬ (A2 26 5) = 0) => ?_) (fun (c13 : (A2 26 5) = 0) => ?_)
            · skip
              simp only [g3, g4, g5, g6, g7, g8] at c13
              refine go_blk (pc2 := 120) (L2 := [.ref 26, .ref 12, .int nd, .int sg, .int 1, .long ((G2 26 6) * (G2 26 4) - (G2 26 3) * (G2 26 7)), .null]) (st2 := [.int 1, .ref 26]) (M2 := (A2, G2, PF)) (hs2 := []) (C := True) [(.iconst 1, 0, 0)] [] (by decide +kernel) rfl trivial ?_
              refine go_goto (off := 4) 124 (by decide +kernel) (by decide) ?_
              refine go_blk (pc2 := 127) (L2 := [.ref 26, .ref 12, .int nd, .int sg, .int 1, .long ((G2 26 6) * (G2 26 4) - (G2 26 3) * (G2 26 7)), .null]) (st2 := []) (M2 := ((u2 A2 26 5 1), G2, PF)) (hs2 := []) (C := (1 = 0 ∨ 1 = 1) ∧ True) [(.putfield 26, 4, 5)] [] (by decide +kernel) rfl ⟨Or.inr rfl, trivial⟩ ?_
              exact go_retv (by decide +kernel) rfl (⟨rfl, _, _, rfl, by
      have ho : incf (G 26 3, G 26 4, A 26 5) cc sg = (G 26 3, G 26 4, 1) := by
        unfold incf ord
        simp [*]
      rw [ho]
      exact ⟨by (intro o k hh; (try rw [u2_ne (by omega)]); (try rw [u2_ne (by omega)])); exact hI.1 o k (by omega), by (intro o k hh; (try rw [u2_ne (by omega)]); (try rw [u2_ne (by omega)])); exact hI.2.1 o k (by omega), by simp [u2, g3, g6], by simp [u2, g4, g7], by simp [u2, g5]⟩⟩)
            · skip
              simp only [g3, g4, g5, g6, g7, g8] at c13
              refine go_blk (pc2 := 116) (L2 := [.ref 26, .ref 12, .int nd, .int sg, .int 1, .long ((G2 26 6) * (G2 26 4) - (G2 26 3) * (G2 26 7)), .null]) (st2 := [.int 1, .ref 26]) (M2 := (A2, G2, PF)) (hs2 := []) (C := True) [(.iload 4, 0, 0)] [] (by decide +kernel) rfl trivial ?_
              refine go_ifz (cnd := .eq) (off := 7) 123 (by decide +kernel) (by decide) (fun (h : (1 : Int32) = 0) => absurd h (by decide)) (fun _ => ?_)
              refine go_blk (pc2 := 120) (L2 := [.ref 26, .ref 12, .int nd, .int sg, .int 1, .long ((G2 26 6) * (G2 26 4) - (G2 26 3) * (G2 26 7)), .null]) (st2 := [.int 1, .ref 26]) (M2 := (A2, G2, PF)) (hs2 := []) (C := True) [(.iconst 1, 0, 0)] [] (by decide +kernel) rfl trivial ?_
              refine go_goto (off := 4) 124 (by decide +kernel) (by decide) ?_
              refine go_blk (pc2 := 127) (L2 := [.ref 26, .ref 12, .int nd, .int sg, .int 1, .long ((G2 26 6) * (G2 26 4) - (G2 26 3) * (G2 26 7)), .null]) (st2 := []) (M2 := ((u2 A2 26 5 1), G2, PF)) (hs2 := []) (C := (1 = 0 ∨ 1 = 1) ∧ True) [(.putfield 26, 4, 5)] [] (by decide +kernel) rfl ⟨Or.inr rfl, trivial⟩ ?_
              exact go_retv (by decide +kernel) rfl (⟨rfl, _, _, rfl, by
      have ho : incf (G 26 3, G 26 4, A 26 5) cc sg = (G 26 3, G 26 4, 1) := by
        unfold incf ord
        simp [*]
      rw [ho]
      exact ⟨by (intro o k hh; (try rw [u2_ne (by omega)]); (try rw [u2_ne (by omega)])); exact hI.1 o k (by omega), by (intro o k hh; (try rw [u2_ne (by omega)]); (try rw [u2_ne (by omega)])); exact hI.2.1 o k (by omega), by simp [u2, g3, g6], by simp [u2, g4, g7], by simp [u2, g5]⟩⟩)
        · skip
          replace c11 : (0 : Int64) < ((G2 26 6) * (G2 26 4) - (G2 26 3) * (G2 26 7)) := Classical.byContradiction (fun zz => c11 (lg_le2.mpr zz))
          simp only [g3, g4, g5, g6, g7, g8] at c11
          refine go_blk (pc2 := 96) (L2 := [.ref 26, .ref 12, .int nd, .int sg, .int 1, .long ((G2 26 6) * (G2 26 4) - (G2 26 3) * (G2 26 7)), .null]) (st2 := []) (M2 := ((u2 A2 26 5 1), (u2 (u2 G2 26 3 (G2 26 6)) 26 4 (G2 26 7)), PF)) (hs2 := []) (C := (1 = 0 ∨ 1 = 1) ∧ True) [(.aload_n 0, 0, 0), (.aload_n 0, 0, 0), (.getfield 30, 4, 6), (.putfield 19, 4, 3), (.aload_n 0, 0, 0), (.aload_n 0, 0, 0), (.getfield 33, 4, 7), (.putfield 23, 4, 4), (.aload_n 0, 0, 0), (.iload 4, 0, 0), (.putfield 26, 4, 5)] [] (by decide +kernel) rfl ⟨Or.inr rfl, trivial⟩ ?_
          refine go_goto (off := 31) 127 (by decide +kernel) (by decide) ?_
          exact go_retv (by decide +kernel) rfl (⟨rfl, _, _, rfl, by
      have ho : incf (G 26 3, G 26 4, A 26 5) cc sg = (cc.1, cc.2.1, 1) := by
        unfold incf ord
        simp [*]
      rw [ho]
      exact ⟨by (intro o k hh; (try rw [u2_ne (by omega)]); (try rw [u2_ne (by omega)])); exact hI.1 o k (by omega), by (intro o k hh; (try rw [u2_ne (by omega)]); (try rw [u2_ne (by omega)])); exact hI.2.1 o k (by omega), by simp [u2, g3, g6], by simp [u2, g4, g7], by simp [u2, g5]⟩⟩)
      · skip
        replace c9 : ((G2 26 4 : Int64) = 0) := lg_eq.mp c9
        simp only [g3, g4, g5, g6, g7, g8] at c9
        refine go_blk (pc2 := 43) (L2 := [.ref 26, .ref 12, .int nd, .int sg, .int 1, .null, .null]) (st2 := [.long 1]) (M2 := (A2, G2, PF)) (hs2 := []) (C := True) [(.lconst 1, 0, 0)] [] (by decide +kernel) rfl trivial ?_
        refine go_goto (off := 22) 65 (by decide +kernel) (by decide) ?_
        refine go_blk (pc2 := 71) (L2 := [.ref 26, .ref 12, .int nd, .int sg, .int 1, .long 1, .null]) (st2 := [.int (lg_cmp 1 0)]) (M2 := (A2, G2, PF)) (hs2 := []) (C := True) [(.lstore 5, 0, 0), (.lload 5, 0, 0), (.lconst 0, 0, 0), (.lcmp, 0, 0)] [] (by decide +kernel) rfl trivial ?_
        refine go_ifz (cnd := .le) (off := 28) 99 (by decide +kernel) (by decide) (fun (h : (lg_cmp 1 0) ≤ 0) => absurd h (by decide)) (fun _ => ?_)
        refine go_blk (pc2 := 96) (L2 := [.ref 26, .ref 12, .int nd, .int sg, .int 1, .long 1, .null]) (st2 := []) (M2 := ((u2 A2 26 5 1), (u2 (u2 G2 26 3 (G2 26 6)) 26 4 (G2 26 7)), PF)) (hs2 := []) (C := (1 = 0 ∨ 1 = 1) ∧ True) [(.aload_n 0, 0, 0), (.aload_n 0, 0, 0), (.getfield 30, 4, 6), (.putfield 19, 4, 3), (.aload_n 0, 0, 0), (.aload_n 0, 0, 0), (.getfield 33, 4, 7), (.putfield 23, 4, 4), (.aload_n 0, 0, 0), (.iload 4, 0, 0), (.putfield 26, 4, 5)] [] (by decide +kernel) rfl ⟨Or.inr rfl, trivial⟩ ?_
        refine go_goto (off := 31) 127 (by decide +kernel) (by decide) ?_
        exact go_retv (by decide +kernel) rfl (⟨rfl, _, _, rfl, by
      have ho : incf (G 26 3, G 26 4, A 26 5) cc sg = (cc.1, cc.2.1, 1) := by
        unfold incf ord
        simp [*]
      rw [ho]
      exact ⟨by (intro o k hh; (try rw [u2_ne (by omega)]); (try rw [u2_ne (by omega)])); exact hI.1 o k (by omega), by (intro o k hh; (try rw [u2_ne (by omega)]); (try rw [u2_ne (by omega)])); exact hI.2.1 o k (by omega), by simp [u2, g3, g6], by simp [u2, g4, g7], by simp [u2, g5]⟩⟩)
  · skip
    replace c2 : ((G2 26 7 : Int64) = 0) := lg_eq.mp c2
    simp only [g3, g4, g5, g6, g7, g8] at c2
    exact go_retv (by decide +kernel) rfl (⟨rfl, _, _, rfl, by
      have ho : incf (G 26 3, G 26 4, A 26 5) cc sg = (G 26 3, G 26 4, A 26 5) := by
        unfold incf ord
        simp [*]
      rw [ho]
      exact ⟨by (intro o k hh; (try rw [u2_ne (by omega)]); (try rw [u2_ne (by omega)])); exact hI.1 o k (by omega), by (intro o k hh; (try rw [u2_ne (by omega)]); (try rw [u2_ne (by omega)])); exact hI.2.1 o k (by omega), by simp [u2, g3, g6], by simp [u2, g4, g7], by simp [u2, g5]⟩⟩)
theorem gcd_step {h w : Nat} : Nat.gcd h w = Nat.gcd w (h % w) := by
  rw [Nat.gcd_comm, Nat.gcd_rec, Nat.gcd_comm]
theorem half_step {h w : Nat} (hw : 0 < w) (hlt : w < h) : 2 * (w * (h % w)) ≤ h * w := by
  have h1 : h % w < w := Nat.mod_lt _ hw
  have h2 : h % w + w * (h / w) = h := Nat.mod_add_div h w
  have h3 : 1 ≤ h / w := Nat.div_pos (by omega) hw
  have h4 : w * 1 ≤ w * (h / w) := Nat.mul_le_mul_left w h3
  have h5 : 2 * (h % w) ≤ h := by omega
  calc 2 * (w * (h % w)) = w * (2 * (h % w)) := by rw [Nat.mul_left_comm]
    _ ≤ w * h := Nat.mul_le_mul_left w h5
    _ = h * w := Nat.mul_comm _ _
theorem lN_pos {w : Nat} (hw : w < 2 ^ 62) : (0 : Int64) < lN w ↔ 0 < w := by
  rw [show (0 : Int64) = lN 0 from rfl]
  exact pk_lLT (by decide) (by omega)
theorem lN_ne {w : Nat} (hw : w < 2 ^ 62) (h : 0 < w) : ¬ lN w = 0 := by
  rw [show (0 : Int64) = lN 0 from rfl]
  intro zz
  exact absurd ((pk_lEQ (by omega) (by decide)).mp zz) (by omega)
set_option maxRecDepth 100000 in
set_option maxHeartbeats 4000000 in
theorem lp_X4_commonDivisor (l : Launch) (A : Nat → Nat → Int32) (G : Nat → Nat → Int64) (f g : Int64) (h0 w0 : Nat) : ∀ r st h1 w1 : Nat, h1 < 2 ^ 62 → w1 < 2 ^ 62 → h1 * w1 < 2 ^ r → st + r < 900 → w1 < h1 → Nat.gcd h1 w1 = Nat.gcd h0 w0 → ∀ j1 j2 : Value, Go l ro0 mX4_commonDivisor 27 (A, G, PF) 12 [.long f, .null, .long g, .null, .long (lN h1), .null, .long (lN w1), .null, .int (nI st), j1, j2] [] 27 (pl (lN (Nat.gcd h0 w0)) (A, G, PF)) := by
  intro r
  induction r with
  | zero =>
    intro st h1 w1 hh hw hb hst hwh hgc j1 j2
    have hr0 : w1 = 0 := by
      rcases Nat.eq_zero_or_pos w1 with q | q
      · exact q
      · exact absurd hb (Nat.not_lt.mpr (Nat.mul_pos (by omega) q))
    subst hr0
    refine go_blk (pc2 := 17) (L2 := [.long f, .null, .long g, .null, .long (lN h1), .null, .long (lN 0), .null, .int (nI st), j1, j2]) (st2 := [.int 1000, .int (nI st)]) (M2 := (A, G, PF)) (hs2 := []) (C := True) [(.iload 8, 0, 0), (.sipush 1000, 0, 0)] [] (by decide +kernel) rfl trivial ?_
    refine go_cmp (cnd := .ge) (off := 31) 48 (by decide +kernel) (by decide) (fun (h : 1000 ≤ (nI st)) => absurd h (fun zz => absurd ((nx_le (a := 1000) (b := st) rfl rfl (by omega) (by omega)).mp zz) (by omega))) (fun _ => ?_)
    refine go_blk (pc2 := 24) (L2 := [.long f, .null, .long g, .null, .long (lN h1), .null, .long (lN 0), .null, .int (nI st), j1, j2]) (st2 := [.int (lg_cmp (lN 0) 0)]) (M2 := (A, G, PF)) (hs2 := []) (C := True) [(.lload 6, 0, 0), (.lconst 0, 0, 0), (.lcmp, 0, 0)] [] (by decide +kernel) rfl trivial ?_
    refine go_ifz (cnd := .le) (off := 24) 48 (by decide +kernel) (by decide) (fun _ => ?_) (fun (h : ¬ (lg_cmp (lN 0) 0) ≤ 0) => absurd h (fun zz => zz (lg_le2.mpr (by decide))))
    refine go_blk (pc2 := 50) (L2 := [.long f, .null, .long g, .null, .long (lN h1), .null, .long (lN 0), .null, .int (nI st), j1, j2]) (st2 := [.long (lN h1)]) (M2 := (A, G, PF)) (hs2 := []) (C := True) [(.lload 4, 0, 0)] [] (by decide +kernel) rfl trivial ?_
    exact go_retl (by decide +kernel) rfl (ple (by rw [← hgc, Nat.gcd_zero_right]))
  | succ r ih =>
    intro st h1 w1 hh hw hb hst hwh hgc j1 j2
    refine go_blk (pc2 := 17) (L2 := [.long f, .null, .long g, .null, .long (lN h1), .null, .long (lN w1), .null, .int (nI st), j1, j2]) (st2 := [.int 1000, .int (nI st)]) (M2 := (A, G, PF)) (hs2 := []) (C := True) [(.iload 8, 0, 0), (.sipush 1000, 0, 0)] [] (by decide +kernel) rfl trivial ?_
    refine go_cmp (cnd := .ge) (off := 31) 48 (by decide +kernel) (by decide) (fun (h : 1000 ≤ (nI st)) => absurd h (fun zz => absurd ((nx_le (a := 1000) (b := st) rfl rfl (by omega) (by omega)).mp zz) (by omega))) (fun _ => ?_)
    refine go_blk (pc2 := 24) (L2 := [.long f, .null, .long g, .null, .long (lN h1), .null, .long (lN w1), .null, .int (nI st), j1, j2]) (st2 := [.int (lg_cmp (lN w1) 0)]) (M2 := (A, G, PF)) (hs2 := []) (C := True) [(.lload 6, 0, 0), (.lconst 0, 0, 0), (.lcmp, 0, 0)] [] (by decide +kernel) rfl trivial ?_
    refine go_ifz (cnd := .le) (off := 24) 48 (by decide +kernel) (by decide) (fun (c1 : (lg_cmp (lN w1) 0) ≤ 0) => ?_) (fun (c1 : ¬ (lg_cmp (lN w1) 0) ≤ 0) => ?_)
    · skip
      replace c1 : ¬ (0 : Int64) < (lN w1) := lg_le2.mp c1
      replace c1 : ¬ 0 < w1 := fun zz => c1 ((lN_pos (by omega)).mpr zz)
      refine go_blk (pc2 := 50) (L2 := [.long f, .null, .long g, .null, .long (lN h1), .null, .long (lN w1), .null, .int (nI st), j1, j2]) (st2 := [.long (lN h1)]) (M2 := (A, G, PF)) (hs2 := []) (C := True) [(.lload 4, 0, 0)] [] (by decide +kernel) rfl trivial ?_
      exact go_retl (by decide +kernel) rfl (ple (by rw [← hgc, show w1 = 0 by omega, Nat.gcd_zero_right]))
    · skip
      replace c1 : (0 : Int64) < (lN w1) := Classical.byContradiction (fun zz => c1 (lg_le2.mpr zz))
      have hw0 : 0 < w1 := (lN_pos (by omega)).mp c1
      have hx1 : h1 % w1 < w1 := Nat.mod_lt _ hw0
      refine go_blk (pc2 := 45) (L2 := [.long f, .null, .long g, .null, .long (lN w1), .null, .long ((lN h1) - ((lN h1) / (lN w1)) * (lN w1)), .null, .int ((nI st) + 1), .long ((lN h1) - ((lN h1) / (lN w1)) * (lN w1)), .null]) (st2 := []) (M2 := (A, G, PF)) (hs2 := []) (C := (¬ (lN w1) = 0) ∧ True) [(.lload 4, 0, 0), (.lload 6, 0, 0), (.lrem, 0, 0), (.lstore 9, 0, 0), (.lload 6, 0, 0), (.lstore 4, 0, 0), (.lload 9, 0, 0), (.lstore 6, 0, 0), (.iinc 8 1, 0, 0)] [] (by decide +kernel) rfl ⟨lN_ne (by omega) hw0, trivial⟩ ?_
      refine go_goto (off := -33) 12 (by decide +kernel) (by decide) ?_
      exact go_as (ih (st + 1) w1 (h1 % w1) (by omega) (by omega) (by have := half_step hw0 hwh; rw [Nat.pow_succ] at hb; omega) (by omega) hx1 (by rw [← gcd_step]; exact hgc) (.long ((lN h1) - ((lN h1) / (lN w1)) * (lN w1))) (.null)) rfl (by rw [pk_lRem (by omega) hw0 (by omega), nI_1]) rfl
set_option maxRecDepth 100000 in
set_option maxHeartbeats 4000000 in
theorem s_X4_commonDivisor (l : Launch) (A : Nat → Nat → Int32) (G : Nat → Nat → Int64) (f : Int64) (h0 w0 : Nat) (hf : (if 0 < f then f else -f) = lN h0) (hh0 : h0 < 2 ^ 40) (hw1 : w0 < 8192) : Sem l mX4_commonDivisor [.long f, .long (lN w0)] 27 (A, G, PF) 27 (pl (lN (Nat.gcd h0 w0)) (A, G, PF)) := by
  refine sem_of_go (by decide) rfl (by decide) (by decide) rfl (Nat.le_of_ble_eq_true rfl) ?_
  show Go l ro0 mX4_commonDivisor 27 (A, G, PF) 0 [.long f, .null, .long (lN w0), .null, .null, .null, .null, .null, .null, .null, .null] [] 27 (pl (lN (Nat.gcd h0 w0)) (A, G, PF))
  refine go_blk (pc2 := 1) (L2 := [.long f, .null, .long (lN w0), .null, .null, .null, .null, .null, .null, .null, .null]) (st2 := [.long f]) (M2 := (A, G, PF)) (hs2 := []) (C := True) [(.lload_n 0, 0, 0)] [] (by decide +kernel) rfl trivial ?_
  refine go_abs rfl (by decide +kernel) ⟨by decide, Nat.le_of_ble_eq_true rfl⟩ (by decide) ?_
  refine go_blk (pc2 := 12) (L2 := [.long f, .null, .long (lN w0), .null, .long (if 0 < f then f else -f), .null, .long (lN w0), .null, .int 0, .null, .null]) (st2 := []) (M2 := (A, G, PF)) (hs2 := []) (C := True) [(.lstore 4, 0, 0), (.lload_n 2, 0, 0), (.lstore 6, 0, 0), (.iconst 0, 0, 0), (.istore 8, 0, 0)] [] (by decide +kernel) rfl trivial ?_
  rw [hf]
  refine go_blk (pc2 := 17) (L2 := [.long f, .null, .long (lN w0), .null, .long (lN h0), .null, .long (lN w0), .null, .int 0, .null, .null]) (st2 := [.int 1000, .int 0]) (M2 := (A, G, PF)) (hs2 := []) (C := True) [(.iload 8, 0, 0), (.sipush 1000, 0, 0)] [] (by decide +kernel) rfl trivial ?_
  refine go_cmp (cnd := .ge) (off := 31) 48 (by decide +kernel) (by decide) (fun (h : 1000 ≤ (0 : Int32)) => absurd h (by decide)) (fun _ => ?_)
  refine go_blk (pc2 := 24) (L2 := [.long f, .null, .long (lN w0), .null, .long (lN h0), .null, .long (lN w0), .null, .int 0, .null, .null]) (st2 := [.int (lg_cmp (lN w0) 0)]) (M2 := (A, G, PF)) (hs2 := []) (C := True) [(.lload 6, 0, 0), (.lconst 0, 0, 0), (.lcmp, 0, 0)] [] (by decide +kernel) rfl trivial ?_
  refine go_ifz (cnd := .le) (off := 24) 48 (by decide +kernel) (by decide) (fun (c1 : (lg_cmp (lN w0) 0) ≤ 0) => ?_) (fun (c1 : ¬ (lg_cmp (lN w0) 0) ≤ 0) => ?_)
  · skip
    replace c1 : ¬ (0 : Int64) < (lN w0) := lg_le2.mp c1
    replace c1 : ¬ 0 < w0 := fun zz => c1 ((lN_pos (by omega)).mpr zz)
    refine go_blk (pc2 := 50) (L2 := [.long f, .null, .long (lN w0), .null, .long (lN h0), .null, .long (lN w0), .null, .int 0, .null, .null]) (st2 := [.long (lN h0)]) (M2 := (A, G, PF)) (hs2 := []) (C := True) [(.lload 4, 0, 0)] [] (by decide +kernel) rfl trivial ?_
    exact go_retl (by decide +kernel) rfl (ple (by rw [show w0 = 0 by omega, Nat.gcd_zero_right]))
  · skip
    replace c1 : (0 : Int64) < (lN w0) := Classical.byContradiction (fun zz => c1 (lg_le2.mpr zz))
    have hw0 : 0 < w0 := (lN_pos (by omega)).mp c1
    have hx1 : h0 % w0 < w0 := Nat.mod_lt _ hw0
    refine go_blk (pc2 := 45) (L2 := [.long f, .null, .long (lN w0), .null, .long (lN w0), .null, .long ((lN h0) - ((lN h0) / (lN w0)) * (lN w0)), .null, .int (0 + 1), .long ((lN h0) - ((lN h0) / (lN w0)) * (lN w0)), .null]) (st2 := []) (M2 := (A, G, PF)) (hs2 := []) (C := (¬ (lN w0) = 0) ∧ True) [(.lload 4, 0, 0), (.lload 6, 0, 0), (.lrem, 0, 0), (.lstore 9, 0, 0), (.lload 6, 0, 0), (.lstore 4, 0, 0), (.lload 9, 0, 0), (.lstore 6, 0, 0), (.iinc 8 1, 0, 0)] [] (by decide +kernel) rfl ⟨lN_ne (by omega) hw0, trivial⟩ ?_
    refine go_goto (off := -33) 12 (by decide +kernel) (by decide) ?_
    exact go_as (lp_X4_commonDivisor l A G f (lN w0) h0 w0 40 1 w0 (h0 % w0) (by omega) (by omega) (by have h4 : w0 * (h0 % w0) ≤ 8192 * 8192 := Nat.mul_le_mul (by omega) (by omega); exact Nat.lt_of_le_of_lt h4 (by decide)) (by decide) hx1 gcd_step.symm (.long ((lN h0) - ((lN h0) / (lN w0)) * (lN w0))) (.null)) rfl (by rw [pk_lRem (by omega) hw0 (by omega)]; rfl) rfl
set_option maxRecDepth 100000 in
set_option maxHeartbeats 4000000 in
theorem s_X4_reducedOver (l : Launch) (A : Nat → Nat → Int32) (G : Nat → Nat → Int64) (h0 w0 : Nat) (hf : (if 0 < G 26 3 then G 26 3 else -(G 26 3)) = lN h0) (hh0 : h0 < 2 ^ 40) (hw1 : w0 < 8192) (hw : G 26 4 = lN w0) : Sem l mX4_reducedOver [.ref 26] 27 (A, G, PF) 27 (pl (if 0 < lN (Nat.gcd h0 w0) then G 26 3 / lN (Nat.gcd h0 w0) else 0) (A, G, PF)) := by
  refine sem_of_go (by decide) rfl (by decide) (by decide) rfl (Nat.le_of_ble_eq_true rfl) ?_
  show Go l ro0 mX4_reducedOver 27 (A, G, PF) 0 [.ref 26, .null, .null] [] 27 (pl (if 0 < lN (Nat.gcd h0 w0) then G 26 3 / lN (Nat.gcd h0 w0) else 0) (A, G, PF))
  refine go_blk (pc2 := 8) (L2 := [.ref 26, .null, .null]) (st2 := [.long (G 26 4), .long (G 26 3)]) (M2 := (A, G, PF)) (hs2 := []) (C := True) [(.aload_n 0, 0, 0), (.getfield 19, 4, 3), (.aload_n 0, 0, 0), (.getfield 23, 4, 4)] [] (by decide +kernel) rfl trivial ?_
  refine go_call (Y2 := mX4_commonDivisor) (n2 := 27) (st := []) [] [.long (G 26 3), .long (G 26 4)] ck_4_68 cwX4_commonDivisor rfl (by decide +kernel) rfl (fun _ => rfl) (fun h => absurd rfl h) (Nat.le_of_ble_eq_true rfl) (Or.inl rfl) (fun _ _ _ h => h) (by rw [hw]; exact s_X4_commonDivisor l A G (G 26 3) h0 w0 hf hh0 hw1) (fun v M2 hp1 => ?_)
  obtain ⟨rfl, rfl⟩ := hp1
  show Go l ro0 mX4_reducedOver 27 (A, G, PF) 11 [.ref 26, .null, .null] [.long (lN (Nat.gcd h0 w0))] 27 _
  refine go_blk (pc2 := 15) (L2 := [.ref 26, .long (lN (Nat.gcd h0 w0)), .null]) (st2 := [.int (lg_cmp (lN (Nat.gcd h0 w0)) 0)]) (M2 := (A, G, PF)) (hs2 := []) (C := True) [(.lstore_n 1, 0, 0), (.lload_n 1, 0, 0), (.lconst 0, 0, 0), (.lcmp, 0, 0)] [] (by decide +kernel) rfl trivial ?_
  refine go_ifz (cnd := .le) (off := 12) 27 (by decide +kernel) (by decide) (fun (c2 : (lg_cmp (lN (Nat.gcd h0 w0)) 0) ≤ 0) => ?_) (fun (c2 : ¬ (lg_cmp (lN (Nat.gcd h0 w0)) 0) ≤ 0) => ?_)
  · skip
    replace c2 : ¬ (0 : Int64) < (lN (Nat.gcd h0 w0)) := lg_le2.mp c2
    refine go_blk (pc2 := 28) (L2 := [.ref 26, .long (lN (Nat.gcd h0 w0)), .null]) (st2 := [.long 0]) (M2 := (A, G, PF)) (hs2 := []) (C := True) [(.lconst 0, 0, 0)] [] (by decide +kernel) rfl trivial ?_
    exact go_retl (by decide +kernel) rfl (ple (by first | rw [if_pos (by assumption)] | rw [if_neg (by assumption)]))
  · skip
    replace c2 : (0 : Int64) < (lN (Nat.gcd h0 w0)) := Classical.byContradiction (fun zz => c2 (lg_le2.mpr zz))
    refine go_blk (pc2 := 24) (L2 := [.ref 26, .long (lN (Nat.gcd h0 w0)), .null]) (st2 := [.long ((G 26 3) / (lN (Nat.gcd h0 w0)))]) (M2 := (A, G, PF)) (hs2 := []) (C := (¬ (lN (Nat.gcd h0 w0)) = 0) ∧ True) [(.aload_n 0, 0, 0), (.getfield 19, 4, 3), (.lload_n 1, 0, 0), (.ldiv, 0, 0)] [] (by decide +kernel) rfl ⟨fun zz => absurd (zz ▸ (by assumption : (0 : Int64) < lN (Nat.gcd h0 w0))) (by decide), trivial⟩ ?_
    refine go_goto (off := 4) 28 (by decide +kernel) (by decide) ?_
    exact go_retl (by decide +kernel) rfl (ple (by first | rw [if_pos (by assumption)] | rw [if_neg (by assumption)]))
set_option maxRecDepth 100000 in
set_option maxHeartbeats 4000000 in
theorem s_X4_reducedUnder (l : Launch) (A : Nat → Nat → Int32) (G : Nat → Nat → Int64) (h0 w0 : Nat) (hf : (if 0 < G 26 3 then G 26 3 else -(G 26 3)) = lN h0) (hh0 : h0 < 2 ^ 40) (hw1 : w0 < 8192) (hw : G 26 4 = lN w0) : Sem l mX4_reducedUnder [.ref 26] 27 (A, G, PF) 27 (pl (if 0 < lN (Nat.gcd h0 w0) then G 26 4 / lN (Nat.gcd h0 w0) else 0) (A, G, PF)) := by
  refine sem_of_go (by decide) rfl (by decide) (by decide) rfl (Nat.le_of_ble_eq_true rfl) ?_
  show Go l ro0 mX4_reducedUnder 27 (A, G, PF) 0 [.ref 26, .null, .null] [] 27 (pl (if 0 < lN (Nat.gcd h0 w0) then G 26 4 / lN (Nat.gcd h0 w0) else 0) (A, G, PF))
  refine go_blk (pc2 := 8) (L2 := [.ref 26, .null, .null]) (st2 := [.long (G 26 4), .long (G 26 3)]) (M2 := (A, G, PF)) (hs2 := []) (C := True) [(.aload_n 0, 0, 0), (.getfield 19, 4, 3), (.aload_n 0, 0, 0), (.getfield 23, 4, 4)] [] (by decide +kernel) rfl trivial ?_
  refine go_call (Y2 := mX4_commonDivisor) (n2 := 27) (st := []) [] [.long (G 26 3), .long (G 26 4)] ck_4_68 cwX4_commonDivisor rfl (by decide +kernel) rfl (fun _ => rfl) (fun h => absurd rfl h) (Nat.le_of_ble_eq_true rfl) (Or.inl rfl) (fun _ _ _ h => h) (by rw [hw]; exact s_X4_commonDivisor l A G (G 26 3) h0 w0 hf hh0 hw1) (fun v M2 hp1 => ?_)
  obtain ⟨rfl, rfl⟩ := hp1
  show Go l ro0 mX4_reducedUnder 27 (A, G, PF) 11 [.ref 26, .null, .null] [.long (lN (Nat.gcd h0 w0))] 27 _
  refine go_blk (pc2 := 15) (L2 := [.ref 26, .long (lN (Nat.gcd h0 w0)), .null]) (st2 := [.int (lg_cmp (lN (Nat.gcd h0 w0)) 0)]) (M2 := (A, G, PF)) (hs2 := []) (C := True) [(.lstore_n 1, 0, 0), (.lload_n 1, 0, 0), (.lconst 0, 0, 0), (.lcmp, 0, 0)] [] (by decide +kernel) rfl trivial ?_
  refine go_ifz (cnd := .le) (off := 12) 27 (by decide +kernel) (by decide) (fun (c2 : (lg_cmp (lN (Nat.gcd h0 w0)) 0) ≤ 0) => ?_) (fun (c2 : ¬ (lg_cmp (lN (Nat.gcd h0 w0)) 0) ≤ 0) => ?_)
  · skip
    replace c2 : ¬ (0 : Int64) < (lN (Nat.gcd h0 w0)) := lg_le2.mp c2
    refine go_blk (pc2 := 28) (L2 := [.ref 26, .long (lN (Nat.gcd h0 w0)), .null]) (st2 := [.long 0]) (M2 := (A, G, PF)) (hs2 := []) (C := True) [(.lconst 0, 0, 0)] [] (by decide +kernel) rfl trivial ?_
    exact go_retl (by decide +kernel) rfl (ple (by first | rw [if_pos (by assumption)] | rw [if_neg (by assumption)]))
  · skip
    replace c2 : (0 : Int64) < (lN (Nat.gcd h0 w0)) := Classical.byContradiction (fun zz => c2 (lg_le2.mpr zz))
    refine go_blk (pc2 := 24) (L2 := [.ref 26, .long (lN (Nat.gcd h0 w0)), .null]) (st2 := [.long ((G 26 4) / (lN (Nat.gcd h0 w0)))]) (M2 := (A, G, PF)) (hs2 := []) (C := (¬ (lN (Nat.gcd h0 w0)) = 0) ∧ True) [(.aload_n 0, 0, 0), (.getfield 23, 4, 4), (.lload_n 1, 0, 0), (.ldiv, 0, 0)] [] (by decide +kernel) rfl ⟨fun zz => absurd (zz ▸ (by assumption : (0 : Int64) < lN (Nat.gcd h0 w0))) (by decide), trivial⟩ ?_
    refine go_goto (off := 4) 28 (by decide +kernel) (by decide) ?_
    exact go_retl (by decide +kernel) rfl (ple (by first | rw [if_pos (by assumption)] | rw [if_neg (by assumption)]))
end
section
def Dfd (dm : Nat) (x : Int32) : Prop := ∃ m, m < 10 ∧ x = nI m ∧ dm.testBit (m / 2) = true
theorem ix10 {x : Int32} (h1 : ¬ x < 0) (h2 : ¬ (10 : Int32) ≤ x) : ∃ m, m < 10 ∧ x = nI m := by
  rcases pk_ix x (n := 10) (by decide) with h | h | h
  · exact absurd h h1
  · exact absurd h h2
  · exact h
theorem ix5 {x : Int32} (h : 0 ≤ x ∧ x < 5) : ∃ m, m < 5 ∧ x = nI m := by
  rcases pk_ix x (n := 5) (by decide) with q | q | q
  · exact absurd q (Int32.not_lt.mpr h.1)
  · exact absurd h.2 (Int32.not_lt.mpr q)
  · exact q
theorem ix3 {x : Int32} (h : 0 ≤ x ∧ x < 3) : ∃ m, m < 3 ∧ x = nI m := by
  rcases pk_ix x (n := 3) (by decide) with q | q | q
  · exact absurd q (Int32.not_lt.mpr h.1)
  · exact absurd h.2 (Int32.not_lt.mpr q)
  · exact q
theorem Dfd_no {dm : Nat} {x : Int32} (h : x < 0 ∨ (10 : Int32) ≤ x) : ¬ Dfd dm x := by
  rintro ⟨m, hm, rfl, -⟩
  rcases h with h | h
  · exact nI_pos (by omega) h
  · exact nI_ge hm (by decide) h
theorem Dfd_nI {dm m : Nat} (hm : m < 10) : Dfd dm (nI m) ↔ dm.testBit (m / 2) = true := by
  constructor
  · rintro ⟨m2, h2, e, h3⟩
    rw [nI_inj (by omega) (by omega) e]
    exact h3
  · exact fun h => ⟨m, hm, rfl, h⟩
def dlin (A : Nat → Nat → Int32) (kk : Nat) (a b c d e : Int32) : Nat → Nat → Int32 := u2 (u2 (u2 (u2 (u2 (u2 A 3 kk a) 4 kk b) 5 kk c) 6 kk d) 2 kk (if e = 0 then 1 else 2)) 1 7 (A 1 7 ||| (1 <<< (nI kk &&& 31)))
def dfac (A : Nat → Nat → Int32) (kk : Nat) (i j : Int32) : Nat → Nat → Int32 := u2 (u2 (u2 (u2 (u2 (u2 (u2 (u2 A 3 kk 0) 4 kk 0) 5 kk 0) 6 kk 0) 2 kk 3) 7 kk i) 8 kk j) 1 7 (A 1 7 ||| (1 <<< (nI kk &&& 31)))
def LinOk (k a b c d : Int32) : Prop := (0 ≤ k ∧ k < 5) ∧ (f9 a ∧ f9 b ∧ f9 c) ∧ f99 d
def FacOk (k i j : Int32) : Prop := (0 ≤ k ∧ k < 5) ∧ (0 ≤ i ∧ i < 3) ∧ (0 ≤ j ∧ j < 3)
def ClOk (dm : Nat) (p q r : Int32) : Prop := ¬ (q = -1 ∧ ¬ r = -1) ∧ Dfd dm p ∧ (q = -1 ∨ Dfd dm q) ∧ (r = -1 ∨ Dfd dm r)
def KI (A : Nat → Nat → Int32) (dm ncl : Nat) : Prop := FOk A ∧ LitOk A ∧ A 1 7 = nI dm ∧ dm < 32 ∧ A 9 2 = nI ncl ∧ ncl ≤ 8
def CornI (A : Nat → Nat → Int32) (cnt : Nat) : Prop := (∀ p q r, p < q → q < r → r < 14 → InB A p q r → ∃ n, n < cnt ∧ AtC A A n p q r) ∧ ∀ n, n < cnt → ∃ p q r, p < q ∧ q < r ∧ r < 14 ∧ InB A p q r ∧ AtC A A n p q r
def CacheI (A : Nat → Nat → Int32) (cnt : Nat) : Prop := cnt ≤ 364 ∧ A 12 9 = nI cnt ∧ (∀ k, k < 5 → A 13 k = A 3 k ∧ A 14 k = A 4 k ∧ A 15 k = A 5 k ∧ A 16 k = A 6 k) ∧ CornI A cnt ∧ ∀ s p, s < 32 → p < 5 → A 24 (s * 5 + p) = ndc A s p ∧ A 25 (s * 5 + p) = sgc A s p ∧ A 23 (s * 5 + p) = bi (Opn A s p cnt)
/-- what refresh leaves as it was -/
def RfF (A A2 : Nat → Nat → Int32) : Prop := (∀ o, (o < 12 ∨ 25 < o) → o ≠ 0 → A2 o = A o) ∧ (∀ k, k ≠ 5 → A2 0 k = A 0 k) ∧ (∀ k, k ≠ 9 → A2 12 k = A 12 k) ∧ ∀ p, 5 ≤ p → A2 13 p = A 13 p ∧ A2 14 p = A 14 p ∧ A2 15 p = A 15 p ∧ A2 16 p = A 16 p
def Z5 (A A2 : Nat → Nat → Int32) : Prop := A2 0 5 = 0 ∧ (A 0 5 = 0 → A2 = A)
theorem RfF.rf (A : Nat → Nat → Int32) : RfF A A := ⟨fun _ _ _ => rfl, fun _ _ => rfl, fun _ _ => rfl, fun _ _ => ⟨rfl, rfl, rfl, rfl⟩⟩
theorem KI.rf {A A2 : Nat → Nat → Int32} {dm ncl : Nat} (h : KI A dm ncl) (hr : RfF A A2) : KI A2 dm ncl := by
  obtain ⟨h1, h2, h3, h4, h5, h6⟩ := h
  have e := fun o ho ho2 => hr.1 o ho ho2
  refine ⟨FOk_c (e 2 (by decide) (by decide)) (e 7 (by decide) (by decide)) (e 8 (by decide) (by decide)) h1, ?_, by rw [e 1 (by decide) (by decide)]; exact h3, h4, by rw [e 9 (by decide) (by decide)]; exact h5, h6⟩
  simpa only [LitOk, lit, e 10 (by decide) (by decide)] using h2
theorem cpy_in (A : Nat → Nat → Int32) : ∀ n k, k < n → cpy A n 13 k = A 3 k ∧ cpy A n 14 k = A 4 k ∧ cpy A n 15 k = A 5 k ∧ cpy A n 16 k = A 6 k := by
  intro n
  induction n with
  | zero => intro k h; omega
  | succ n ih =>
    intro k h
    by_cases e : k = n
    · subst e
      simp [cpy, u2]
    · have := ih k (by omega)
      simp only [cpy]
      simp [u2, e, this]
theorem cpy_out (A : Nat → Nat → Int32) : ∀ n k, n ≤ k → cpy A n 13 k = A 13 k ∧ cpy A n 14 k = A 14 k ∧ cpy A n 15 k = A 15 k ∧ cpy A n 16 k = A 16 k := by
  intro n
  induction n with
  | zero => intro k _; exact ⟨rfl, rfl, rfl, rfl⟩
  | succ n ih =>
    intro k h
    have := ih k (by omega)
    have e : k ≠ n := by omega
    simp only [cpy]
    simp [u2, e, this]
theorem refreshed {A A2 A3 : Nat → Nat → Int32} {cnt : Nat} (hstl : ¬ A 0 5 = 0) (h364 : cnt ≤ 364) (h : CI (LT3 14 0 0) (u2 (cpy A 5) 12 9 0) A2 cnt) (h2 : CellI A2 A3 cnt 160) : CacheI (u2 A3 0 5 0) cnt ∧ RfF A (u2 A3 0 5 0) ∧ Z5 A (u2 A3 0 5 0) := by
  have e3 : ∀ o, o ≠ 0 → o ≠ 23 → o ≠ 24 → o ≠ 25 → u2 A3 0 5 0 o = A2 o := fun o q1 q2 q3 q4 => by
    rw [← h2.1 o q2 q3 q4]
    funext k
    exact u2_o q1
  have e2 : ∀ o, (o < 17 ∨ 21 < o) → o ≠ 12 → A2 o = cpy A 5 o := fun o q1 q2 => by
    rw [h.1 o q1 q2]
    funext k
    exact u2_o q2
  have hr : ∀ p q r, (InB (u2 A3 0 5 0) p q r ↔ InB (u2 (cpy A 5) 12 9 0) p q r) := fun p q r => by
    have e := (h.rows p q r).2.1
    rw [← e]
    unfold InB cx cy cz cw D0
    rw [e3 13 (by decide) (by decide) (by decide) (by decide), e3 14 (by decide) (by decide) (by decide) (by decide), e3 15 (by decide) (by decide) (by decide) (by decide), e3 16 (by decide) (by decide) (by decide) (by decide)]
  have hat : ∀ n p q r, AtC (u2 (cpy A 5) 12 9 0) A2 n p q r → AtC (u2 A3 0 5 0) (u2 A3 0 5 0) n p q r := fun n p q r hh => by
    obtain ⟨⟨-, x1, x2, x3, x4⟩, -, xf⟩ := h.rows p q r
    have g13 := e3 13 (by decide) (by decide) (by decide) (by decide)
    have g14 := e3 14 (by decide) (by decide) (by decide) (by decide)
    have g15 := e3 15 (by decide) (by decide) (by decide) (by decide)
    have g16 := e3 16 (by decide) (by decide) (by decide) (by decide)
    have y1 : cx (u2 A3 0 5 0) p q r = cx A2 p q r := by unfold cx D0; rw [g13, g14, g15, g16]
    have y2 : cy (u2 A3 0 5 0) p q r = cy A2 p q r := by unfold cy D0; rw [g13, g14, g15, g16]
    have y3 : cz (u2 A3 0 5 0) p q r = cz A2 p q r := by unfold cz D0; rw [g13, g14, g15, g16]
    have y4 : cw (u2 A3 0 5 0) p q r = cw A2 p q r := by unfold cw D0; rw [g13, g14, g15]
    obtain ⟨a1, a2, a3, a4, a5⟩ := hh
    refine ⟨?_, ?_, ?_, ?_, ?_⟩
    · rw [e3 17 (by decide) (by decide) (by decide) (by decide), y1, x1]; exact a1
    · rw [e3 18 (by decide) (by decide) (by decide) (by decide), y2, x2]; exact a2
    · rw [e3 19 (by decide) (by decide) (by decide) (by decide), y3, x3]; exact a3
    · rw [e3 20 (by decide) (by decide) (by decide) (by decide), y4, x4]; exact a4
    · rw [e3 21 (by decide) (by decide) (by decide) (by decide), y1, y2, y3, y4, fsd_c g13 g14 g15 g16, xf, x1, x2, x3, x4]; exact a5
  have h12 : u2 A3 0 5 0 12 = A2 12 := e3 12 (by decide) (by decide) (by decide) (by decide)
  refine ⟨⟨h364, by rw [h12]; exact h.2.2.1, fun k hk => ?_, ⟨fun p q r h1 h3 h4 hi => ?_, fun n hn => ?_⟩, fun s p hs hp => ?_⟩, ⟨fun o ho ho2 => ?_, fun k hk => ?_, fun k hk => ?_, fun p hp => ?_⟩, u2_s, fun z => absurd z hstl⟩
  · have := cpy_in A 5 k hk
    rw [e3 13 (by decide) (by decide) (by decide) (by decide), e3 14 (by decide) (by decide) (by decide) (by decide), e3 15 (by decide) (by decide) (by decide) (by decide), e3 16 (by decide) (by decide) (by decide) (by decide), e3 3 (by decide) (by decide) (by decide) (by decide), e3 4 (by decide) (by decide) (by decide) (by decide), e3 5 (by decide) (by decide) (by decide) (by decide), e3 6 (by decide) (by decide) (by decide) (by decide)]
    rw [e2 13 (by decide) (by decide), e2 14 (by decide) (by decide), e2 15 (by decide) (by decide), e2 16 (by decide) (by decide), e2 3 (by decide) (by decide), e2 4 (by decide) (by decide), e2 5 (by decide) (by decide), e2 6 (by decide) (by decide), cpy_o (o := 3) (by decide), cpy_o (o := 4) (by decide), cpy_o (o := 5) (by decide), cpy_o (o := 6) (by decide)]
    exact this
  · obtain ⟨n, g1, g2⟩ := h.2.2.2.1 p q r (by unfold LT3; omega) ((hr p q r).mp hi)
    exact ⟨n, g1, hat n p q r g2⟩
  · obtain ⟨p, q, r, g1, g2, g3⟩ := h.2.2.2.2 n hn
    exact ⟨p, q, r, g1.1.1, g1.1.2.1, g1.1.2.2, (hr p q r).mpr g2, hat n p q r g3⟩
  · obtain ⟨q1, q2, q3⟩ := h2.2 s p hp (by omega)
    have f2 := e3 2 (by decide) (by decide) (by decide) (by decide)
    have n1 : ndc (u2 A3 0 5 0) s p = ndc A2 s p := by unfold ndc; rw [snd_c f2]
    have n2 : sgc (u2 A3 0 5 0) s p = sgc A2 s p := by unfold sgc; rw [ssg_c f2]
    have n3 : Opn (u2 A3 0 5 0) s p cnt = Opn A2 s p cnt := by
      unfold Opn
      rw [n1, n2, HasF_c f2 (e3 7 (by decide) (by decide) (by decide) (by decide)) (e3 8 (by decide) (by decide) (by decide) (by decide)), HavP_c (e3 21 (by decide) (by decide) (by decide) (by decide))]
    rw [n1, n2, n3, u2_o (by decide), u2_o (by decide), u2_o (by decide)]
    exact ⟨q1, q2, q3⟩
  · rw [e3 o ho2 (by omega) (by omega) (by omega), e2 o (by omega) (by omega), cpy_o (by omega)]
  · rw [u2_k hk, h2.1 0 (by decide) (by decide) (by decide), e2 0 (by decide) (by decide), cpy_o (by decide)]
  · rw [h12, h.2.1 k hk, u2_k hk, cpy_o (by decide)]
  · have := cpy_out A 5 p hp
    rw [e3 13 (by decide) (by decide) (by decide) (by decide), e3 14 (by decide) (by decide) (by decide) (by decide), e3 15 (by decide) (by decide) (by decide) (by decide), e3 16 (by decide) (by decide) (by decide) (by decide), e2 13 (by decide) (by decide), e2 14 (by decide) (by decide), e2 15 (by decide) (by decide), e2 16 (by decide) (by decide)]
    exact this
theorem sub_ok : ∀ s, s < 32 → ∀ d, d < 32 → ((nI s &&& (nI d ^^^ (-1))) = 0 ↔ s &&& d = s) := by decide +kernel
def Wd (A : Nat → Nat → Int32) (dm ncl s : Nat) : Prop := s &&& dm = s ∧ (∃ p, p < 5 ∧ ¬ A 23 (s * 5 + p) = 0) ∧ SatC A s ncl
set_option maxRecDepth 100000 in
set_option maxHeartbeats 4000000 in
theorem s_X5_isDefined (l : Launch) (A : Nat → Nat → Int32) (G : Nat → Nat → Int64) (dm : Nat) (hdm : A 1 7 = nI dm) (hdm32 : dm < 32) (x : Int32) : Sem l mX5_isDefined [.ref 0, .int x] 27 (A, G, PF) 27 (pv (bi (Dfd dm x)) (A, G, PF)) := by
  refine sem_of_go (by decide) rfl (by decide) (by decide) rfl (Nat.le_of_ble_eq_true rfl) ?_
  show Go l ro0 mX5_isDefined 27 (A, G, PF) 0 [.ref 0, .int x] [] 27 (pv (bi (Dfd dm x)) (A, G, PF))
  refine go_blk (pc2 := 1) (L2 := [.ref 0, .int x]) (st2 := [.int x]) (M2 := (A, G, PF)) (hs2 := []) (C := True) [(.iload_n 1, 0, 0)] [] (by decide +kernel) rfl trivial ?_
  refine go_ifz (cnd := .lt) (off := 30) 31 (by decide +kernel) (by decide) (fun (c1 : x < 0) => ?_) (fun (c1 : ¬ x < 0) => ?_)
  · skip
    refine go_blk (pc2 := 32) (L2 := [.ref 0, .int x]) (st2 := [.int 0]) (M2 := (A, G, PF)) (hs2 := []) (C := True) [(.iconst 0, 0, 0)] [] (by decide +kernel) rfl trivial ?_
    exact go_retz (by decide +kernel) rfl (Or.inl rfl) (pv0 (by first | exact Dfd_no (Or.inl (by assumption)) | exact Dfd_no (Or.inr (by assumption)) | (rw [hxm, Dfd_nI hm]; assumption)))
  · skip
    refine go_blk (pc2 := 7) (L2 := [.ref 0, .int x]) (st2 := [.int 10, .int x]) (M2 := (A, G, PF)) (hs2 := []) (C := True) [(.iload_n 1, 0, 0), (.bipush 10, 0, 0)] [] (by decide +kernel) rfl trivial ?_
    refine go_cmp (cnd := .ge) (off := 24) 31 (by decide +kernel) (by decide) (fun (c2 : 10 ≤ x) => ?_) (fun (c2 : ¬ 10 ≤ x) => ?_)
    · skip
      refine go_blk (pc2 := 32) (L2 := [.ref 0, .int x]) (st2 := [.int 0]) (M2 := (A, G, PF)) (hs2 := []) (C := True) [(.iconst 0, 0, 0)] [] (by decide +kernel) rfl trivial ?_
      exact go_retz (by decide +kernel) rfl (Or.inl rfl) (pv0 (by first | exact Dfd_no (Or.inl (by assumption)) | exact Dfd_no (Or.inr (by assumption)) | (rw [hxm, Dfd_nI hm]; assumption)))
    · skip
      obtain ⟨m, hm, hxm⟩ := ix10 (by assumption) c2
      refine go_blk (pc2 := 14) (L2 := [.ref 0, .int x]) (st2 := [.ref 1]) (M2 := (A, G, PF)) (hs2 := []) (C := True) [(.aload_n 0, 0, 0), (.getfield 12, 5, 0)] [] (by decide +kernel) rfl trivial ?_
      refine go_call (Y2 := mX0_defined) (n2 := 27) (st := []) [.ref 1] [] ck_5_106 cwX0_defined rfl (by decide +kernel) rfl (fun h => absurd h (by decide)) (fun _ => ⟨1, rfl, by decide, rfl⟩) (Nat.le_of_ble_eq_true rfl) (Or.inl rfl) (fun _ _ _ h => h) (s_X0_defined l A G) (fun v M2 hp3 => ?_)
      obtain ⟨rfl, rfl⟩ := hp3
      show Go l ro0 mX5_isDefined 27 (A, G, PF) 17 [.ref 0, .int x] [.int (A 1 7)] 27 _
      refine go_blk (pc2 := 24) (L2 := [.ref 0, .int x]) (st2 := [.int 1, .int (((A 1 7) >>> ((x >>> (1 &&& 31)) &&& 31)) &&& 1)]) (M2 := (A, G, PF)) (hs2 := []) (C := True) [(.iload_n 1, 0, 0), (.iconst 1, 0, 0), (.ishr, 0, 0), (.ishr, 0, 0), (.iconst 1, 0, 0), (.iand, 0, 0), (.iconst 1, 0, 0)] [] (by decide +kernel) rfl trivial ?_
      refine go_cmp (cnd := .ne) (off := 7) 31 (by decide +kernel) (by decide) (fun (c4 : ¬ (((A 1 7) >>> ((x >>> (1 &&& 31)) &&& 31)) &&& 1) = 1) => ?_) (fun (c4 : (((A 1 7) >>> ((x >>> (1 &&& 31)) &&& 31)) &&& 1) = 1) => ?_)
      · skip
        rw [hdm, hxm, (lit_h m hm).1, bitS1 hdm32 (by omega)] at c4
        refine go_blk (pc2 := 32) (L2 := [.ref 0, .int x]) (st2 := [.int 0]) (M2 := (A, G, PF)) (hs2 := []) (C := True) [(.iconst 0, 0, 0)] [] (by decide +kernel) rfl trivial ?_
        exact go_retz (by decide +kernel) rfl (Or.inl rfl) (pv0 (by first | exact Dfd_no (Or.inl (by assumption)) | exact Dfd_no (Or.inr (by assumption)) | (rw [hxm, Dfd_nI hm]; assumption)))
      · skip
        rw [hdm, hxm, (lit_h m hm).1, bitS1 hdm32 (by omega)] at c4
        refine go_blk (pc2 := 28) (L2 := [.ref 0, .int x]) (st2 := [.int 1]) (M2 := (A, G, PF)) (hs2 := []) (C := True) [(.iconst 1, 0, 0)] [] (by decide +kernel) rfl trivial ?_
        refine go_goto (off := 4) 32 (by decide +kernel) (by decide) ?_
        exact go_retz (by decide +kernel) rfl (Or.inr rfl) (pv1 (by rw [hxm, Dfd_nI hm]; assumption))
set_option maxRecDepth 100000 in
set_option maxHeartbeats 4000000 in
theorem s_X5_isDefinedOrAbsent (l : Launch) (A : Nat → Nat → Int32) (G : Nat → Nat → Int64) (dm : Nat) (hdm : A 1 7 = nI dm) (hdm32 : dm < 32) (x : Int32) : Sem l mX5_isDefinedOrAbsent [.ref 0, .int x] 27 (A, G, PF) 27 (pv (bi (x = -1 ∨ Dfd dm x)) (A, G, PF)) := by
  refine sem_of_go (by decide) rfl (by decide) (by decide) rfl (Nat.le_of_ble_eq_true rfl) ?_
  show Go l ro0 mX5_isDefinedOrAbsent 27 (A, G, PF) 0 [.ref 0, .int x] [] 27 (pv (bi (x = -1 ∨ Dfd dm x)) (A, G, PF))
  refine go_blk (pc2 := 2) (L2 := [.ref 0, .int x]) (st2 := [.int (-1), .int x]) (M2 := (A, G, PF)) (hs2 := []) (C := True) [(.iload_n 1, 0, 0), (.iconst (-1), 0, 0)] [] (by decide +kernel) rfl trivial ?_
  refine go_cmp (cnd := .eq) (off := 11) 13 (by decide +kernel) (by decide) (fun (c1 : x = (-1)) => ?_) (fun (c1 : ¬ x = (-1)) => ?_)
  · skip
    refine go_blk (pc2 := 14) (L2 := [.ref 0, .int x]) (st2 := [.int 1]) (M2 := (A, G, PF)) (hs2 := []) (C := True) [(.iconst 1, 0, 0)] [] (by decide +kernel) rfl trivial ?_
    refine go_goto (off := 4) 18 (by decide +kernel) (by decide) ?_
    exact go_retz (by decide +kernel) rfl (Or.inr rfl) (pv1 (by first | exact Or.inl (by assumption) | exact Or.inr (by assumption) | exact fun zz => zz.elim (by assumption) (by assumption)))
  · skip
    refine go_blk (pc2 := 7) (L2 := [.ref 0, .int x]) (st2 := [.int x, .ref 0]) (M2 := (A, G, PF)) (hs2 := []) (C := True) [(.aload_n 0, 0, 0), (.iload_n 1, 0, 0)] [] (by decide +kernel) rfl trivial ?_
    refine go_call (Y2 := mX5_isDefined) (n2 := 27) (st := []) [.ref 0] [.int x] ck_5_77 cwX5_isDefined rfl (by decide +kernel) rfl (fun h => absurd h (by decide)) (fun _ => ⟨0, rfl, by decide, rfl⟩) (Nat.le_of_ble_eq_true rfl) (Or.inl rfl) (fun _ _ _ h => h) (s_X5_isDefined l A G dm hdm hdm32 x) (fun v M2 hp2 => ?_)
    obtain ⟨rfl, rfl⟩ := hp2
    rcases Classical.em (Dfd dm x) with hb3 | hb3
    · rw [bi_t hb3]
      show Go l ro0 mX5_isDefinedOrAbsent 27 (A, G, PF) 10 [.ref 0, .int x] [.int 1] 27 _
      refine go_ifz (cnd := .eq) (off := 7) 17 (by decide +kernel) (by decide) (fun (h : (1 : Int32) = 0) => absurd h (by decide)) (fun _ => ?_)
      refine go_blk (pc2 := 14) (L2 := [.ref 0, .int x]) (st2 := [.int 1]) (M2 := (A, G, PF)) (hs2 := []) (C := True) [(.iconst 1, 0, 0)] [] (by decide +kernel) rfl trivial ?_
      refine go_goto (off := 4) 18 (by decide +kernel) (by decide) ?_
      exact go_retz (by decide +kernel) rfl (Or.inr rfl) (pv1 (by first | exact Or.inl (by assumption) | exact Or.inr (by assumption) | exact fun zz => zz.elim (by assumption) (by assumption)))
    · rw [bi_f hb3]
      show Go l ro0 mX5_isDefinedOrAbsent 27 (A, G, PF) 10 [.ref 0, .int x] [.int 0] 27 _
      refine go_ifz (cnd := .eq) (off := 7) 17 (by decide +kernel) (by decide) (fun _ => ?_) (fun (h : ¬ (0 : Int32) = 0) => absurd h (by decide))
      refine go_blk (pc2 := 18) (L2 := [.ref 0, .int x]) (st2 := [.int 0]) (M2 := (A, G, PF)) (hs2 := []) (C := True) [(.iconst 0, 0, 0)] [] (by decide +kernel) rfl trivial ?_
      exact go_retz (by decide +kernel) rfl (Or.inl rfl) (pv0 (by first | exact Or.inl (by assumption) | exact Or.inr (by assumption) | exact fun zz => zz.elim (by assumption) (by assumption)))
set_option maxRecDepth 100000 in
set_option maxHeartbeats 4000000 in
theorem s_X5_linear (l : Launch) (A : Nat → Nat → Int32) (G : Nat → Nat → Int64) (k a b c d e : Int32) : Sem l mX5_linear [.ref 0, .int k, .int a, .int b, .int c, .int d, .int e] 27 (A, G, PF) 27 (fun r M2 => (LinOk k a b c d ∧ ∃ kk, kk < 5 ∧ k = nI kk ∧ r = some (.int 1) ∧ M2 = (u2 (dlin A kk a b c d e) 0 5 1, G, PF)) ∨ (¬ LinOk k a b c d ∧ r = some (.int 0) ∧ M2 = (A, G, PF))) := by
  refine sem_of_go (by decide) rfl (by decide) (by decide) rfl (Nat.le_of_ble_eq_true rfl) ?_
  show Go l ro0 mX5_linear 27 (A, G, PF) 0 [.ref 0, .int k, .int a, .int b, .int c, .int d, .int e] [] 27 (fun r M2 => (LinOk k a b c d ∧ ∃ kk, kk < 5 ∧ k = nI kk ∧ r = some (.int 1) ∧ M2 = (u2 (dlin A kk a b c d e) 0 5 1, G, PF)) ∨ (¬ LinOk k a b c d ∧ r = some (.int 0) ∧ M2 = (A, G, PF)))
  refine go_blk (pc2 := 1) (L2 := [.ref 0, .int k, .int a, .int b, .int c, .int d, .int e]) (st2 := [.int k]) (M2 := (A, G, PF)) (hs2 := []) (C := True) [(.iload_n 1, 0, 0)] [] (by decide +kernel) rfl trivial ?_
  refine go_call (Y2 := mX5_isAtom) (n2 := 27) (st := []) [] [.int k] ck_5_55 cwX5_isAtom rfl (by decide +kernel) rfl (fun _ => rfl) (fun h => absurd rfl h) (Nat.le_of_ble_eq_true rfl) (Or.inl rfl) (fun _ _ _ h => h) (s_X5_isAtom l A G k) (fun v M2 hp1 => ?_)
  obtain ⟨rfl, rfl⟩ := hp1
  rcases Classical.em (0 ≤ k ∧ k < 5) with hb2 | hb2
  · rw [bi_t hb2]
    show Go l ro0 mX5_linear 27 (A, G, PF) 4 [.ref 0, .int k, .int a, .int b, .int c, .int d, .int e] [.int 1] 27 _
    refine go_ifz (cnd := .eq) (off := 21) 25 (by decide +kernel) (by decide) (fun (h : (1 : Int32) = 0) => absurd h (by decide)) (fun _ => ?_)
    refine go_blk (pc2 := 11) (L2 := [.ref 0, .int k, .int a, .int b, .int c, .int d, .int e]) (st2 := [.int c, .int b, .int a]) (M2 := (A, G, PF)) (hs2 := []) (C := True) [(.iload_n 2, 0, 0), (.iload_n 3, 0, 0), (.iload 4, 0, 0)] [] (by decide +kernel) rfl trivial ?_
    refine go_call (Y2 := mX5_areFactors) (n2 := 27) (st := []) [] [.int a, .int b, .int c] ck_5_59 cwX5_areFactors rfl (by decide +kernel) rfl (fun _ => rfl) (fun h => absurd rfl h) (Nat.le_of_ble_eq_true rfl) (Or.inl rfl) (fun _ _ _ h => h) (s_X5_areFactors l A G a b c) (fun v M2 hp3 => ?_)
    obtain ⟨rfl, rfl⟩ := hp3
    rcases Classical.em (f9 a ∧ f9 b ∧ f9 c) with hb4 | hb4
    · rw [bi_t hb4]
      show Go l ro0 mX5_linear 27 (A, G, PF) 14 [.ref 0, .int k, .int a, .int b, .int c, .int d, .int e] [.int 1] 27 _
      refine go_ifz (cnd := .eq) (off := 11) 25 (by decide +kernel) (by decide) (fun (h : (1 : Int32) = 0) => absurd h (by decide)) (fun _ => ?_)
      refine go_blk (pc2 := 19) (L2 := [.ref 0, .int k, .int a, .int b, .int c, .int d, .int e]) (st2 := [.int d]) (M2 := (A, G, PF)) (hs2 := []) (C := True) [(.iload 5, 0, 0)] [] (by decide +kernel) rfl trivial ?_
      refine go_call (Y2 := mX5_isLimit) (n2 := 27) (st := []) [] [.int d] ck_5_63 cwX5_isLimit rfl (by decide +kernel) rfl (fun _ => rfl) (fun h => absurd rfl h) (Nat.le_of_ble_eq_true rfl) (Or.inl rfl) (fun _ _ _ h => h) (s_X5_isLimit l A G d) (fun v M2 hp5 => ?_)
      obtain ⟨rfl, rfl⟩ := hp5
      rcases Classical.em (f99 d) with hb6 | hb6
      · rw [bi_t hb6]
        show Go l ro0 mX5_linear 27 (A, G, PF) 22 [.ref 0, .int k, .int a, .int b, .int c, .int d, .int e] [.int 1] 27 _
        obtain ⟨kk, hkk5, hkk⟩ := ix5 (by assumption)
        refine go_ifz (cnd := .ne) (off := 5) 27 (by decide +kernel) (by decide) (fun _ => ?_) (fun (h : (1 : Int32) = 0) => absurd h (by decide))
        refine go_blk (pc2 := 40) (L2 := [.ref 0, .int k, .int a, .int b, .int c, .int d, .int e]) (st2 := [.int e, .int d, .int c, .int b, .int a, .int k, .ref 1]) (M2 := (A, G, PF)) (hs2 := []) (C := True) [(.aload_n 0, 0, 0), (.getfield 12, 5, 0), (.iload_n 1, 0, 0), (.iload_n 2, 0, 0), (.iload_n 3, 0, 0), (.iload 4, 0, 0), (.iload 5, 0, 0), (.iload 6, 0, 0)] [] (by decide +kernel) rfl trivial ?_
        refine go_call (Y2 := mX0_defineLinear) (n2 := 27) (st := []) [.ref 1] [.int k, .int a, .int b, .int c, .int d, .int e] ck_5_66 cwX0_defineLinear rfl (by decide +kernel) rfl (fun h => absurd h (by decide)) (fun _ => ⟨1, rfl, by decide, rfl⟩) (Nat.le_of_ble_eq_true rfl) (Or.inl rfl) (fun _ _ _ h => h) (by rw [hkk]; exact s_X0_defineLinear l A G kk hkk5 a b c d e) (fun v M2 hp7 => ?_)
        obtain ⟨rfl, rfl⟩ := hp7
        show Go l ro0 mX5_linear 27 ((dlin A kk a b c d e), G, PF) 43 [.ref 0, .int k, .int a, .int b, .int c, .int d, .int e] [] 27 _
        refine go_blk (pc2 := 49) (L2 := [.ref 0, .int k, .int a, .int b, .int c, .int d, .int e]) (st2 := [.int 1]) (M2 := ((u2 (dlin A kk a b c d e) 0 5 1), G, PF)) (hs2 := []) (C := (1 = 0 ∨ 1 = 1) ∧ True) [(.aload_n 0, 0, 0), (.iconst 1, 0, 0), (.putfield 44, 5, 5), (.iconst 1, 0, 0)] [] (by decide +kernel) rfl ⟨Or.inr rfl, trivial⟩ ?_
        exact go_retz (by decide +kernel) rfl (Or.inr rfl) (Or.inl ⟨⟨by assumption, by assumption, by assumption⟩, kk, hkk5, hkk, rfl, rfl⟩)
      · rw [bi_f hb6]
        show Go l ro0 mX5_linear 27 (A, G, PF) 22 [.ref 0, .int k, .int a, .int b, .int c, .int d, .int e] [.int 0] 27 _
        refine go_ifz (cnd := .ne) (off := 5) 27 (by decide +kernel) (by decide) (fun (h : ¬ (0 : Int32) = 0) => absurd h (by decide)) (fun _ => ?_)
        refine go_blk (pc2 := 26) (L2 := [.ref 0, .int k, .int a, .int b, .int c, .int d, .int e]) (st2 := [.int 0]) (M2 := (A, G, PF)) (hs2 := []) (C := True) [(.iconst 0, 0, 0)] [] (by decide +kernel) rfl trivial ?_
        exact go_retz (by decide +kernel) rfl (Or.inl rfl) (Or.inr ⟨by rintro ⟨z1, z2, z3⟩; contradiction, rfl, rfl⟩)
    · rw [bi_f hb4]
      show Go l ro0 mX5_linear 27 (A, G, PF) 14 [.ref 0, .int k, .int a, .int b, .int c, .int d, .int e] [.int 0] 27 _
      refine go_ifz (cnd := .eq) (off := 11) 25 (by decide +kernel) (by decide) (fun _ => ?_) (fun (h : ¬ (0 : Int32) = 0) => absurd h (by decide))
      refine go_blk (pc2 := 26) (L2 := [.ref 0, .int k, .int a, .int b, .int c, .int d, .int e]) (st2 := [.int 0]) (M2 := (A, G, PF)) (hs2 := []) (C := True) [(.iconst 0, 0, 0)] [] (by decide +kernel) rfl trivial ?_
      exact go_retz (by decide +kernel) rfl (Or.inl rfl) (Or.inr ⟨by rintro ⟨z1, z2, z3⟩; contradiction, rfl, rfl⟩)
  · rw [bi_f hb2]
    show Go l ro0 mX5_linear 27 (A, G, PF) 4 [.ref 0, .int k, .int a, .int b, .int c, .int d, .int e] [.int 0] 27 _
    refine go_ifz (cnd := .eq) (off := 21) 25 (by decide +kernel) (by decide) (fun _ => ?_) (fun (h : ¬ (0 : Int32) = 0) => absurd h (by decide))
    refine go_blk (pc2 := 26) (L2 := [.ref 0, .int k, .int a, .int b, .int c, .int d, .int e]) (st2 := [.int 0]) (M2 := (A, G, PF)) (hs2 := []) (C := True) [(.iconst 0, 0, 0)] [] (by decide +kernel) rfl trivial ?_
    exact go_retz (by decide +kernel) rfl (Or.inl rfl) (Or.inr ⟨by rintro ⟨z1, z2, z3⟩; contradiction, rfl, rfl⟩)
set_option maxRecDepth 100000 in
set_option maxHeartbeats 4000000 in
theorem s_X5_fact (l : Launch) (A : Nat → Nat → Int32) (G : Nat → Nat → Int64) (k i j : Int32) : Sem l mX5_fact [.ref 0, .int k, .int i, .int j] 27 (A, G, PF) 27 (fun r M2 => (FacOk k i j ∧ ∃ kk, kk < 5 ∧ k = nI kk ∧ r = some (.int 1) ∧ M2 = (u2 (dfac A kk i j) 0 5 1, G, PF)) ∨ (¬ FacOk k i j ∧ r = some (.int 0) ∧ M2 = (A, G, PF))) := by
  refine sem_of_go (by decide) rfl (by decide) (by decide) rfl (Nat.le_of_ble_eq_true rfl) ?_
  show Go l ro0 mX5_fact 27 (A, G, PF) 0 [.ref 0, .int k, .int i, .int j] [] 27 (fun r M2 => (FacOk k i j ∧ ∃ kk, kk < 5 ∧ k = nI kk ∧ r = some (.int 1) ∧ M2 = (u2 (dfac A kk i j) 0 5 1, G, PF)) ∨ (¬ FacOk k i j ∧ r = some (.int 0) ∧ M2 = (A, G, PF)))
  refine go_blk (pc2 := 1) (L2 := [.ref 0, .int k, .int i, .int j]) (st2 := [.int k]) (M2 := (A, G, PF)) (hs2 := []) (C := True) [(.iload_n 1, 0, 0)] [] (by decide +kernel) rfl trivial ?_
  refine go_call (Y2 := mX5_isAtom) (n2 := 27) (st := []) [] [.int k] ck_5_55 cwX5_isAtom rfl (by decide +kernel) rfl (fun _ => rfl) (fun h => absurd rfl h) (Nat.le_of_ble_eq_true rfl) (Or.inl rfl) (fun _ _ _ h => h) (s_X5_isAtom l A G k) (fun v M2 hp1 => ?_)
  obtain ⟨rfl, rfl⟩ := hp1
  rcases Classical.em (0 ≤ k ∧ k < 5) with hb2 | hb2
  · rw [bi_t hb2]
    show Go l ro0 mX5_fact 27 (A, G, PF) 4 [.ref 0, .int k, .int i, .int j] [.int 1] 27 _
    obtain ⟨kk, hkk5, hkk⟩ := ix5 (by assumption)
    refine go_ifz (cnd := .eq) (off := 17) 21 (by decide +kernel) (by decide) (fun (h : (1 : Int32) = 0) => absurd h (by decide)) (fun _ => ?_)
    refine go_blk (pc2 := 8) (L2 := [.ref 0, .int k, .int i, .int j]) (st2 := [.int i]) (M2 := (A, G, PF)) (hs2 := []) (C := True) [(.iload_n 2, 0, 0)] [] (by decide +kernel) rfl trivial ?_
    refine go_call (Y2 := mX5_isNumber) (n2 := 27) (st := []) [] [.int i] ck_5_70 cwX5_isNumber rfl (by decide +kernel) rfl (fun _ => rfl) (fun h => absurd rfl h) (Nat.le_of_ble_eq_true rfl) (Or.inl rfl) (fun _ _ _ h => h) (s_X5_isNumber l A G i) (fun v M2 hp3 => ?_)
    obtain ⟨rfl, rfl⟩ := hp3
    rcases Classical.em (0 ≤ i ∧ i < 3) with hb4 | hb4
    · rw [bi_t hb4]
      show Go l ro0 mX5_fact 27 (A, G, PF) 11 [.ref 0, .int k, .int i, .int j] [.int 1] 27 _
      refine go_ifz (cnd := .eq) (off := 10) 21 (by decide +kernel) (by decide) (fun (h : (1 : Int32) = 0) => absurd h (by decide)) (fun _ => ?_)
      refine go_blk (pc2 := 15) (L2 := [.ref 0, .int k, .int i, .int j]) (st2 := [.int j]) (M2 := (A, G, PF)) (hs2 := []) (C := True) [(.iload_n 3, 0, 0)] [] (by decide +kernel) rfl trivial ?_
      refine go_call (Y2 := mX5_isNumber) (n2 := 27) (st := []) [] [.int j] ck_5_70 cwX5_isNumber rfl (by decide +kernel) rfl (fun _ => rfl) (fun h => absurd rfl h) (Nat.le_of_ble_eq_true rfl) (Or.inl rfl) (fun _ _ _ h => h) (s_X5_isNumber l A G j) (fun v M2 hp5 => ?_)
      obtain ⟨rfl, rfl⟩ := hp5
      rcases Classical.em (0 ≤ j ∧ j < 3) with hb6 | hb6
      · rw [bi_t hb6]
        show Go l ro0 mX5_fact 27 (A, G, PF) 18 [.ref 0, .int k, .int i, .int j] [.int 1] 27 _
        refine go_ifz (cnd := .ne) (off := 5) 23 (by decide +kernel) (by decide) (fun _ => ?_) (fun (h : (1 : Int32) = 0) => absurd h (by decide))
        refine go_blk (pc2 := 30) (L2 := [.ref 0, .int k, .int i, .int j]) (st2 := [.int j, .int i, .int k, .ref 1]) (M2 := (A, G, PF)) (hs2 := []) (C := True) [(.aload_n 0, 0, 0), (.getfield 12, 5, 0), (.iload_n 1, 0, 0), (.iload_n 2, 0, 0), (.iload_n 3, 0, 0)] [] (by decide +kernel) rfl trivial ?_
        refine go_call (Y2 := mX0_defineFact) (n2 := 27) (st := []) [.ref 1] [.int k, .int i, .int j] ck_5_73 cwX0_defineFact rfl (by decide +kernel) rfl (fun h => absurd h (by decide)) (fun _ => ⟨1, rfl, by decide, rfl⟩) (Nat.le_of_ble_eq_true rfl) (Or.inl rfl) (fun _ _ _ h => h) (by rw [hkk]; exact s_X0_defineFact l A G kk hkk5 i j) (fun v M2 hp7 => ?_)
        obtain ⟨rfl, rfl⟩ := hp7
        show Go l ro0 mX5_fact 27 ((dfac A kk i j), G, PF) 33 [.ref 0, .int k, .int i, .int j] [] 27 _
        refine go_blk (pc2 := 39) (L2 := [.ref 0, .int k, .int i, .int j]) (st2 := [.int 1]) (M2 := ((u2 (dfac A kk i j) 0 5 1), G, PF)) (hs2 := []) (C := (1 = 0 ∨ 1 = 1) ∧ True) [(.aload_n 0, 0, 0), (.iconst 1, 0, 0), (.putfield 44, 5, 5), (.iconst 1, 0, 0)] [] (by decide +kernel) rfl ⟨Or.inr rfl, trivial⟩ ?_
        exact go_retz (by decide +kernel) rfl (Or.inr rfl) (Or.inl ⟨⟨by assumption, by assumption, by assumption⟩, kk, hkk5, hkk, rfl, rfl⟩)
      · rw [bi_f hb6]
        show Go l ro0 mX5_fact 27 (A, G, PF) 18 [.ref 0, .int k, .int i, .int j] [.int 0] 27 _
        refine go_ifz (cnd := .ne) (off := 5) 23 (by decide +kernel) (by decide) (fun (h : ¬ (0 : Int32) = 0) => absurd h (by decide)) (fun _ => ?_)
        refine go_blk (pc2 := 22) (L2 := [.ref 0, .int k, .int i, .int j]) (st2 := [.int 0]) (M2 := (A, G, PF)) (hs2 := []) (C := True) [(.iconst 0, 0, 0)] [] (by decide +kernel) rfl trivial ?_
        exact go_retz (by decide +kernel) rfl (Or.inl rfl) (Or.inr ⟨by rintro ⟨z1, z2, z3⟩; contradiction, rfl, rfl⟩)
    · rw [bi_f hb4]
      show Go l ro0 mX5_fact 27 (A, G, PF) 11 [.ref 0, .int k, .int i, .int j] [.int 0] 27 _
      refine go_ifz (cnd := .eq) (off := 10) 21 (by decide +kernel) (by decide) (fun _ => ?_) (fun (h : ¬ (0 : Int32) = 0) => absurd h (by decide))
      refine go_blk (pc2 := 22) (L2 := [.ref 0, .int k, .int i, .int j]) (st2 := [.int 0]) (M2 := (A, G, PF)) (hs2 := []) (C := True) [(.iconst 0, 0, 0)] [] (by decide +kernel) rfl trivial ?_
      exact go_retz (by decide +kernel) rfl (Or.inl rfl) (Or.inr ⟨by rintro ⟨z1, z2, z3⟩; contradiction, rfl, rfl⟩)
  · rw [bi_f hb2]
    show Go l ro0 mX5_fact 27 (A, G, PF) 4 [.ref 0, .int k, .int i, .int j] [.int 0] 27 _
    refine go_ifz (cnd := .eq) (off := 17) 21 (by decide +kernel) (by decide) (fun _ => ?_) (fun (h : ¬ (0 : Int32) = 0) => absurd h (by decide))
    refine go_blk (pc2 := 22) (L2 := [.ref 0, .int k, .int i, .int j]) (st2 := [.int 0]) (M2 := (A, G, PF)) (hs2 := []) (C := True) [(.iconst 0, 0, 0)] [] (by decide +kernel) rfl trivial ?_
    exact go_retz (by decide +kernel) rfl (Or.inl rfl) (Or.inr ⟨by rintro ⟨z1, z2, z3⟩; contradiction, rfl, rfl⟩)
set_option maxRecDepth 100000 in
set_option maxHeartbeats 4000000 in
theorem s_X5_clause (l : Launch) (A : Nat → Nat → Int32) (G : Nat → Nat → Int64) (dm : Nat) (hdm : A 1 7 = nI dm) (hdm32 : dm < 32) (ncl : Nat) (hn : A 9 2 = nI ncl) (hn8 : ncl ≤ 8) (p q r1 : Int32) : Sem l mX5_clause [.ref 0, .int p, .int q, .int r1] 27 (A, G, PF) 27 (fun r M2 => (ClOk dm p q r1 ∧ ncl < 8 ∧ r = some (.int (A 9 2 + 1)) ∧ M2 = ((u2 (u2 (u2 (u2 A 10 (ncl * 3) p) 10 (ncl * 3 + 1) q) 10 (ncl * 3 + 2) r1) 9 2 (A 9 2 + 1)), G, PF)) ∨ (ClOk dm p q r1 ∧ ncl = 8 ∧ r = some (.int (-2)) ∧ M2 = (A, G, PF)) ∨ (¬ ClOk dm p q r1 ∧ r = some (.int (-1)) ∧ M2 = (A, G, PF))) := by
  refine sem_of_go (by decide) rfl (by decide) (by decide) rfl (Nat.le_of_ble_eq_true rfl) ?_
  show Go l ro0 mX5_clause 27 (A, G, PF) 0 [.ref 0, .int p, .int q, .int r1, .null] [] 27 (fun r M2 => (ClOk dm p q r1 ∧ ncl < 8 ∧ r = some (.int (A 9 2 + 1)) ∧ M2 = ((u2 (u2 (u2 (u2 A 10 (ncl * 3) p) 10 (ncl * 3 + 1) q) 10 (ncl * 3 + 2) r1) 9 2 (A 9 2 + 1)), G, PF)) ∨ (ClOk dm p q r1 ∧ ncl = 8 ∧ r = some (.int (-2)) ∧ M2 = (A, G, PF)) ∨ (¬ ClOk dm p q r1 ∧ r = some (.int (-1)) ∧ M2 = (A, G, PF)))
  refine go_blk (pc2 := 2) (L2 := [.ref 0, .int p, .int q, .int r1, .null]) (st2 := [.int (-1), .int q]) (M2 := (A, G, PF)) (hs2 := []) (C := True) [(.iload_n 2, 0, 0), (.iconst (-1), 0, 0)] [] (by decide +kernel) rfl trivial ?_
  refine go_cmp (cnd := .ne) (off := 12) 14 (by decide +kernel) (by decide) (fun (c1 : ¬ q = (-1)) => ?_) (fun (c1 : q = (-1)) => ?_)
  · skip
    refine go_blk (pc2 := 19) (L2 := [.ref 0, .int p, .int q, .int r1, .int 0]) (st2 := [.int 0]) (M2 := (A, G, PF)) (hs2 := []) (C := True) [(.iconst 0, 0, 0), (.istore 4, 0, 0), (.iload 4, 0, 0)] [] (by decide +kernel) rfl trivial ?_
    refine go_ifz (cnd := .ne) (off := 27) 46 (by decide +kernel) (by decide) (fun (h : ¬ (0 : Int32) = 0) => absurd h (by decide)) (fun _ => ?_)
    refine go_blk (pc2 := 24) (L2 := [.ref 0, .int p, .int q, .int r1, .int 0]) (st2 := [.int p, .ref 0]) (M2 := (A, G, PF)) (hs2 := []) (C := True) [(.aload_n 0, 0, 0), (.iload_n 1, 0, 0)] [] (by decide +kernel) rfl trivial ?_
    refine go_call (Y2 := mX5_isDefined) (n2 := 27) (st := []) [.ref 0] [.int p] ck_5_77 cwX5_isDefined rfl (by decide +kernel) rfl (fun h => absurd h (by decide)) (fun _ => ⟨0, rfl, by decide, rfl⟩) (Nat.le_of_ble_eq_true rfl) (Or.inl rfl) (fun _ _ _ h => h) (s_X5_isDefined l A G dm hdm hdm32 p) (fun v M2 hp2 => ?_)
    obtain ⟨rfl, rfl⟩ := hp2
    rcases Classical.em (Dfd dm p) with hb3 | hb3
    · rw [bi_t hb3]
      show Go l ro0 mX5_clause 27 (A, G, PF) 27 [.ref 0, .int p, .int q, .int r1, .int 0] [.int 1] 27 _
      refine go_ifz (cnd := .eq) (off := 19) 46 (by decide +kernel) (by decide) (fun (h : (1 : Int32) = 0) => absurd h (by decide)) (fun _ => ?_)
      refine go_blk (pc2 := 32) (L2 := [.ref 0, .int p, .int q, .int r1, .int 0]) (st2 := [.int q, .ref 0]) (M2 := (A, G, PF)) (hs2 := []) (C := True) [(.aload_n 0, 0, 0), (.iload_n 2, 0, 0)] [] (by decide +kernel) rfl trivial ?_
      refine go_call (Y2 := mX5_isDefinedOrAbsent) (n2 := 27) (st := []) [.ref 0] [.int q] ck_5_80 cwX5_isDefinedOrAbsent rfl (by decide +kernel) rfl (fun h => absurd h (by decide)) (fun _ => ⟨0, rfl, by decide, rfl⟩) (Nat.le_of_ble_eq_true rfl) (Or.inl rfl) (fun _ _ _ h => h) (s_X5_isDefinedOrAbsent l A G dm hdm hdm32 q) (fun v M2 hp4 => ?_)
      obtain ⟨rfl, rfl⟩ := hp4
      rcases Classical.em (q = -1 ∨ Dfd dm q) with hb5 | hb5
      · rw [bi_t hb5]
        show Go l ro0 mX5_clause 27 (A, G, PF) 35 [.ref 0, .int p, .int q, .int r1, .int 0] [.int 1] 27 _
        refine go_ifz (cnd := .eq) (off := 11) 46 (by decide +kernel) (by decide) (fun (h : (1 : Int32) = 0) => absurd h (by decide)) (fun _ => ?_)
        refine go_blk (pc2 := 40) (L2 := [.ref 0, .int p, .int q, .int r1, .int 0]) (st2 := [.int r1, .ref 0]) (M2 := (A, G, PF)) (hs2 := []) (C := True) [(.aload_n 0, 0, 0), (.iload_n 3, 0, 0)] [] (by decide +kernel) rfl trivial ?_
        refine go_call (Y2 := mX5_isDefinedOrAbsent) (n2 := 27) (st := []) [.ref 0] [.int r1] ck_5_80 cwX5_isDefinedOrAbsent rfl (by decide +kernel) rfl (fun h => absurd h (by decide)) (fun _ => ⟨0, rfl, by decide, rfl⟩) (Nat.le_of_ble_eq_true rfl) (Or.inl rfl) (fun _ _ _ h => h) (s_X5_isDefinedOrAbsent l A G dm hdm hdm32 r1) (fun v M2 hp6 => ?_)
        obtain ⟨rfl, rfl⟩ := hp6
        rcases Classical.em (r1 = -1 ∨ Dfd dm r1) with hb7 | hb7
        · rw [bi_t hb7]
          show Go l ro0 mX5_clause 27 (A, G, PF) 43 [.ref 0, .int p, .int q, .int r1, .int 0] [.int 1] 27 _
          refine go_ifz (cnd := .ne) (off := 5) 48 (by decide +kernel) (by decide) (fun _ => ?_) (fun (h : (1 : Int32) = 0) => absurd h (by decide))
          refine go_blk (pc2 := 55) (L2 := [.ref 0, .int p, .int q, .int r1, .int 0]) (st2 := [.int r1, .int q, .int p, .ref 9]) (M2 := (A, G, PF)) (hs2 := []) (C := True) [(.aload_n 0, 0, 0), (.getfield 19, 5, 1), (.iload_n 1, 0, 0), (.iload_n 2, 0, 0), (.iload_n 3, 0, 0)] [] (by decide +kernel) rfl trivial ?_
          refine go_call (Y2 := mX2_add) (n2 := 27) (st := []) [.ref 9] [.int p, .int q, .int r1] ck_5_83 cwX2_add rfl (by decide +kernel) rfl (fun h => absurd h (by decide)) (fun _ => ⟨9, rfl, by decide, rfl⟩) (Nat.le_of_ble_eq_true rfl) (Or.inl rfl) (fun _ _ _ h => h) (s_X2_add l A G ncl hn hn8 p q r1) (fun v M2 hp8 => ?_)
          rcases hp8 with ⟨hlt, rfl, rfl⟩ | ⟨hge, rfl, rfl⟩
          · show Go l ro0 mX5_clause 27 ((u2 (u2 (u2 (u2 A 10 (ncl * 3) p) 10 (ncl * 3 + 1) q) 10 (ncl * 3 + 2) r1) 9 2 (A 9 2 + 1)), G, PF) 58 [.ref 0, .int p, .int q, .int r1, .int 0] [.int 1] 27 _
            refine go_ifz (cnd := .eq) (off := 13) 71 (by decide +kernel) (by decide) (fun (h : (1 : Int32) = 0) => absurd h (by decide)) (fun _ => ?_)
            refine go_blk (pc2 := 65) (L2 := [.ref 0, .int p, .int q, .int r1, .int 0]) (st2 := [.ref 9]) (M2 := ((u2 (u2 (u2 (u2 A 10 (ncl * 3) p) 10 (ncl * 3 + 1) q) 10 (ncl * 3 + 2) r1) 9 2 (A 9 2 + 1)), G, PF)) (hs2 := []) (C := True) [(.aload_n 0, 0, 0), (.getfield 19, 5, 1)] [] (by decide +kernel) rfl trivial ?_
            refine go_call (Y2 := mX2_size) (n2 := 27) (st := []) [.ref 9] [] ck_5_86 cwX2_size rfl (by decide +kernel) rfl (fun h => absurd h (by decide)) (fun _ => ⟨9, rfl, by decide, rfl⟩) (Nat.le_of_ble_eq_true rfl) (Or.inl rfl) (fun _ _ _ h => h) (s_X2_size l (u2 (u2 (u2 (u2 A 10 (ncl * 3) p) 10 (ncl * 3 + 1) q) 10 (ncl * 3 + 2) r1) 9 2 (A 9 2 + 1)) G) (fun v M2 hp9 => ?_)
            obtain ⟨rfl, rfl⟩ := hp9
            show Go l ro0 mX5_clause 27 ((u2 (u2 (u2 (u2 A 10 (ncl * 3) p) 10 (ncl * 3 + 1) q) 10 (ncl * 3 + 2) r1) 9 2 (A 9 2 + 1)), G, PF) 68 [.ref 0, .int p, .int q, .int r1, .int 0] [.int (A 9 2 + 1)] 27 _
            refine go_goto (off := 5) 73 (by decide +kernel) (by decide) ?_
            exact go_reti (by decide +kernel) rfl (Or.inl ⟨⟨by rintro ⟨z1, z2⟩; contradiction, by assumption, by assumption, by assumption⟩, hlt, rfl, rfl⟩)
          · show Go l ro0 mX5_clause 27 (A, G, PF) 58 [.ref 0, .int p, .int q, .int r1, .int 0] [.int 0] 27 _
            refine go_ifz (cnd := .eq) (off := 13) 71 (by decide +kernel) (by decide) (fun _ => ?_) (fun (h : ¬ (0 : Int32) = 0) => absurd h (by decide))
            refine go_blk (pc2 := 73) (L2 := [.ref 0, .int p, .int q, .int r1, .int 0]) (st2 := [.int (-2)]) (M2 := (A, G, PF)) (hs2 := []) (C := True) [(.bipush (-2), 0, 0)] [] (by decide +kernel) rfl trivial ?_
            exact go_reti (by decide +kernel) rfl (Or.inr (Or.inl ⟨⟨by rintro ⟨z1, z2⟩; contradiction, by assumption, by assumption, by assumption⟩, hge, rfl, rfl⟩))
        · rw [bi_f hb7]
          show Go l ro0 mX5_clause 27 (A, G, PF) 43 [.ref 0, .int p, .int q, .int r1, .int 0] [.int 0] 27 _
          refine go_ifz (cnd := .ne) (off := 5) 48 (by decide +kernel) (by decide) (fun (h : ¬ (0 : Int32) = 0) => absurd h (by decide)) (fun _ => ?_)
          refine go_blk (pc2 := 47) (L2 := [.ref 0, .int p, .int q, .int r1, .int 0]) (st2 := [.int (-1)]) (M2 := (A, G, PF)) (hs2 := []) (C := True) [(.iconst (-1), 0, 0)] [] (by decide +kernel) rfl trivial ?_
          exact go_reti (by decide +kernel) rfl (Or.inr (Or.inr ⟨by rintro ⟨z1, z2, z3, z4⟩; first | contradiction | exact z1 ⟨by assumption, by assumption⟩, rfl, rfl⟩))
      · rw [bi_f hb5]
        show Go l ro0 mX5_clause 27 (A, G, PF) 35 [.ref 0, .int p, .int q, .int r1, .int 0] [.int 0] 27 _
        refine go_ifz (cnd := .eq) (off := 11) 46 (by decide +kernel) (by decide) (fun _ => ?_) (fun (h : ¬ (0 : Int32) = 0) => absurd h (by decide))
        refine go_blk (pc2 := 47) (L2 := [.ref 0, .int p, .int q, .int r1, .int 0]) (st2 := [.int (-1)]) (M2 := (A, G, PF)) (hs2 := []) (C := True) [(.iconst (-1), 0, 0)] [] (by decide +kernel) rfl trivial ?_
        exact go_reti (by decide +kernel) rfl (Or.inr (Or.inr ⟨by rintro ⟨z1, z2, z3, z4⟩; first | contradiction | exact z1 ⟨by assumption, by assumption⟩, rfl, rfl⟩))
    · rw [bi_f hb3]
      show Go l ro0 mX5_clause 27 (A, G, PF) 27 [.ref 0, .int p, .int q, .int r1, .int 0] [.int 0] 27 _
      refine go_ifz (cnd := .eq) (off := 19) 46 (by decide +kernel) (by decide) (fun _ => ?_) (fun (h : ¬ (0 : Int32) = 0) => absurd h (by decide))
      refine go_blk (pc2 := 47) (L2 := [.ref 0, .int p, .int q, .int r1, .int 0]) (st2 := [.int (-1)]) (M2 := (A, G, PF)) (hs2 := []) (C := True) [(.iconst (-1), 0, 0)] [] (by decide +kernel) rfl trivial ?_
      exact go_reti (by decide +kernel) rfl (Or.inr (Or.inr ⟨by rintro ⟨z1, z2, z3, z4⟩; first | contradiction | exact z1 ⟨by assumption, by assumption⟩, rfl, rfl⟩))
  · skip
    refine go_blk (pc2 := 7) (L2 := [.ref 0, .int p, .int q, .int r1, .null]) (st2 := [.int (-1), .int r1]) (M2 := (A, G, PF)) (hs2 := []) (C := True) [(.iload_n 3, 0, 0), (.iconst (-1), 0, 0)] [] (by decide +kernel) rfl trivial ?_
    refine go_cmp (cnd := .eq) (off := 7) 14 (by decide +kernel) (by decide) (fun (c10 : r1 = (-1)) => ?_) (fun (c10 : ¬ r1 = (-1)) => ?_)
    · skip
      refine go_blk (pc2 := 19) (L2 := [.ref 0, .int p, .int q, .int r1, .int 0]) (st2 := [.int 0]) (M2 := (A, G, PF)) (hs2 := []) (C := True) [(.iconst 0, 0, 0), (.istore 4, 0, 0), (.iload 4, 0, 0)] [] (by decide +kernel) rfl trivial ?_
      refine go_ifz (cnd := .ne) (off := 27) 46 (by decide +kernel) (by decide) (fun (h : ¬ (0 : Int32) = 0) => absurd h (by decide)) (fun _ => ?_)
      refine go_blk (pc2 := 24) (L2 := [.ref 0, .int p, .int q, .int r1, .int 0]) (st2 := [.int p, .ref 0]) (M2 := (A, G, PF)) (hs2 := []) (C := True) [(.aload_n 0, 0, 0), (.iload_n 1, 0, 0)] [] (by decide +kernel) rfl trivial ?_
      refine go_call (Y2 := mX5_isDefined) (n2 := 27) (st := []) [.ref 0] [.int p] ck_5_77 cwX5_isDefined rfl (by decide +kernel) rfl (fun h => absurd h (by decide)) (fun _ => ⟨0, rfl, by decide, rfl⟩) (Nat.le_of_ble_eq_true rfl) (Or.inl rfl) (fun _ _ _ h => h) (s_X5_isDefined l A G dm hdm hdm32 p) (fun v M2 hp11 => ?_)
      obtain ⟨rfl, rfl⟩ := hp11
      rcases Classical.em (Dfd dm p) with hb12 | hb12
      · rw [bi_t hb12]
        show Go l ro0 mX5_clause 27 (A, G, PF) 27 [.ref 0, .int p, .int q, .int r1, .int 0] [.int 1] 27 _
        refine go_ifz (cnd := .eq) (off := 19) 46 (by decide +kernel) (by decide) (fun (h : (1 : Int32) = 0) => absurd h (by decide)) (fun _ => ?_)
        refine go_blk (pc2 := 32) (L2 := [.ref 0, .int p, .int q, .int r1, .int 0]) (st2 := [.int q, .ref 0]) (M2 := (A, G, PF)) (hs2 := []) (C := True) [(.aload_n 0, 0, 0), (.iload_n 2, 0, 0)] [] (by decide +kernel) rfl trivial ?_
        refine go_call (Y2 := mX5_isDefinedOrAbsent) (n2 := 27) (st := []) [.ref 0] [.int q] ck_5_80 cwX5_isDefinedOrAbsent rfl (by decide +kernel) rfl (fun h => absurd h (by decide)) (fun _ => ⟨0, rfl, by decide, rfl⟩) (Nat.le_of_ble_eq_true rfl) (Or.inl rfl) (fun _ _ _ h => h) (s_X5_isDefinedOrAbsent l A G dm hdm hdm32 q) (fun v M2 hp13 => ?_)
        obtain ⟨rfl, rfl⟩ := hp13
        rcases Classical.em (q = -1 ∨ Dfd dm q) with hb14 | hb14
        · rw [bi_t hb14]
          show Go l ro0 mX5_clause 27 (A, G, PF) 35 [.ref 0, .int p, .int q, .int r1, .int 0] [.int 1] 27 _
          refine go_ifz (cnd := .eq) (off := 11) 46 (by decide +kernel) (by decide) (fun (h : (1 : Int32) = 0) => absurd h (by decide)) (fun _ => ?_)
          refine go_blk (pc2 := 40) (L2 := [.ref 0, .int p, .int q, .int r1, .int 0]) (st2 := [.int r1, .ref 0]) (M2 := (A, G, PF)) (hs2 := []) (C := True) [(.aload_n 0, 0, 0), (.iload_n 3, 0, 0)] [] (by decide +kernel) rfl trivial ?_
          refine go_call (Y2 := mX5_isDefinedOrAbsent) (n2 := 27) (st := []) [.ref 0] [.int r1] ck_5_80 cwX5_isDefinedOrAbsent rfl (by decide +kernel) rfl (fun h => absurd h (by decide)) (fun _ => ⟨0, rfl, by decide, rfl⟩) (Nat.le_of_ble_eq_true rfl) (Or.inl rfl) (fun _ _ _ h => h) (s_X5_isDefinedOrAbsent l A G dm hdm hdm32 r1) (fun v M2 hp15 => ?_)
          obtain ⟨rfl, rfl⟩ := hp15
          rcases Classical.em (r1 = -1 ∨ Dfd dm r1) with hb16 | hb16
          · rw [bi_t hb16]
            show Go l ro0 mX5_clause 27 (A, G, PF) 43 [.ref 0, .int p, .int q, .int r1, .int 0] [.int 1] 27 _
            refine go_ifz (cnd := .ne) (off := 5) 48 (by decide +kernel) (by decide) (fun _ => ?_) (fun (h : (1 : Int32) = 0) => absurd h (by decide))
            refine go_blk (pc2 := 55) (L2 := [.ref 0, .int p, .int q, .int r1, .int 0]) (st2 := [.int r1, .int q, .int p, .ref 9]) (M2 := (A, G, PF)) (hs2 := []) (C := True) [(.aload_n 0, 0, 0), (.getfield 19, 5, 1), (.iload_n 1, 0, 0), (.iload_n 2, 0, 0), (.iload_n 3, 0, 0)] [] (by decide +kernel) rfl trivial ?_
            refine go_call (Y2 := mX2_add) (n2 := 27) (st := []) [.ref 9] [.int p, .int q, .int r1] ck_5_83 cwX2_add rfl (by decide +kernel) rfl (fun h => absurd h (by decide)) (fun _ => ⟨9, rfl, by decide, rfl⟩) (Nat.le_of_ble_eq_true rfl) (Or.inl rfl) (fun _ _ _ h => h) (s_X2_add l A G ncl hn hn8 p q r1) (fun v M2 hp17 => ?_)
            rcases hp17 with ⟨hlt, rfl, rfl⟩ | ⟨hge, rfl, rfl⟩
            · show Go l ro0 mX5_clause 27 ((u2 (u2 (u2 (u2 A 10 (ncl * 3) p) 10 (ncl * 3 + 1) q) 10 (ncl * 3 + 2) r1) 9 2 (A 9 2 + 1)), G, PF) 58 [.ref 0, .int p, .int q, .int r1, .int 0] [.int 1] 27 _
              refine go_ifz (cnd := .eq) (off := 13) 71 (by decide +kernel) (by decide) (fun (h : (1 : Int32) = 0) => absurd h (by decide)) (fun _ => ?_)
              refine go_blk (pc2 := 65) (L2 := [.ref 0, .int p, .int q, .int r1, .int 0]) (st2 := [.ref 9]) (M2 := ((u2 (u2 (u2 (u2 A 10 (ncl * 3) p) 10 (ncl * 3 + 1) q) 10 (ncl * 3 + 2) r1) 9 2 (A 9 2 + 1)), G, PF)) (hs2 := []) (C := True) [(.aload_n 0, 0, 0), (.getfield 19, 5, 1)] [] (by decide +kernel) rfl trivial ?_
              refine go_call (Y2 := mX2_size) (n2 := 27) (st := []) [.ref 9] [] ck_5_86 cwX2_size rfl (by decide +kernel) rfl (fun h => absurd h (by decide)) (fun _ => ⟨9, rfl, by decide, rfl⟩) (Nat.le_of_ble_eq_true rfl) (Or.inl rfl) (fun _ _ _ h => h) (s_X2_size l (u2 (u2 (u2 (u2 A 10 (ncl * 3) p) 10 (ncl * 3 + 1) q) 10 (ncl * 3 + 2) r1) 9 2 (A 9 2 + 1)) G) (fun v M2 hp18 => ?_)
              obtain ⟨rfl, rfl⟩ := hp18
              show Go l ro0 mX5_clause 27 ((u2 (u2 (u2 (u2 A 10 (ncl * 3) p) 10 (ncl * 3 + 1) q) 10 (ncl * 3 + 2) r1) 9 2 (A 9 2 + 1)), G, PF) 68 [.ref 0, .int p, .int q, .int r1, .int 0] [.int (A 9 2 + 1)] 27 _
              refine go_goto (off := 5) 73 (by decide +kernel) (by decide) ?_
              exact go_reti (by decide +kernel) rfl (Or.inl ⟨⟨by rintro ⟨z1, z2⟩; contradiction, by assumption, by assumption, by assumption⟩, hlt, rfl, rfl⟩)
            · show Go l ro0 mX5_clause 27 (A, G, PF) 58 [.ref 0, .int p, .int q, .int r1, .int 0] [.int 0] 27 _
              refine go_ifz (cnd := .eq) (off := 13) 71 (by decide +kernel) (by decide) (fun _ => ?_) (fun (h : ¬ (0 : Int32) = 0) => absurd h (by decide))
              refine go_blk (pc2 := 73) (L2 := [.ref 0, .int p, .int q, .int r1, .int 0]) (st2 := [.int (-2)]) (M2 := (A, G, PF)) (hs2 := []) (C := True) [(.bipush (-2), 0, 0)] [] (by decide +kernel) rfl trivial ?_
              exact go_reti (by decide +kernel) rfl (Or.inr (Or.inl ⟨⟨by rintro ⟨z1, z2⟩; contradiction, by assumption, by assumption, by assumption⟩, hge, rfl, rfl⟩))
          · rw [bi_f hb16]
            show Go l ro0 mX5_clause 27 (A, G, PF) 43 [.ref 0, .int p, .int q, .int r1, .int 0] [.int 0] 27 _
            refine go_ifz (cnd := .ne) (off := 5) 48 (by decide +kernel) (by decide) (fun (h : ¬ (0 : Int32) = 0) => absurd h (by decide)) (fun _ => ?_)
            refine go_blk (pc2 := 47) (L2 := [.ref 0, .int p, .int q, .int r1, .int 0]) (st2 := [.int (-1)]) (M2 := (A, G, PF)) (hs2 := []) (C := True) [(.iconst (-1), 0, 0)] [] (by decide +kernel) rfl trivial ?_
            exact go_reti (by decide +kernel) rfl (Or.inr (Or.inr ⟨by rintro ⟨z1, z2, z3, z4⟩; first | contradiction | exact z1 ⟨by assumption, by assumption⟩, rfl, rfl⟩))
        · rw [bi_f hb14]
          show Go l ro0 mX5_clause 27 (A, G, PF) 35 [.ref 0, .int p, .int q, .int r1, .int 0] [.int 0] 27 _
          refine go_ifz (cnd := .eq) (off := 11) 46 (by decide +kernel) (by decide) (fun _ => ?_) (fun (h : ¬ (0 : Int32) = 0) => absurd h (by decide))
          refine go_blk (pc2 := 47) (L2 := [.ref 0, .int p, .int q, .int r1, .int 0]) (st2 := [.int (-1)]) (M2 := (A, G, PF)) (hs2 := []) (C := True) [(.iconst (-1), 0, 0)] [] (by decide +kernel) rfl trivial ?_
          exact go_reti (by decide +kernel) rfl (Or.inr (Or.inr ⟨by rintro ⟨z1, z2, z3, z4⟩; first | contradiction | exact z1 ⟨by assumption, by assumption⟩, rfl, rfl⟩))
      · rw [bi_f hb12]
        show Go l ro0 mX5_clause 27 (A, G, PF) 27 [.ref 0, .int p, .int q, .int r1, .int 0] [.int 0] 27 _
        refine go_ifz (cnd := .eq) (off := 19) 46 (by decide +kernel) (by decide) (fun _ => ?_) (fun (h : ¬ (0 : Int32) = 0) => absurd h (by decide))
        refine go_blk (pc2 := 47) (L2 := [.ref 0, .int p, .int q, .int r1, .int 0]) (st2 := [.int (-1)]) (M2 := (A, G, PF)) (hs2 := []) (C := True) [(.iconst (-1), 0, 0)] [] (by decide +kernel) rfl trivial ?_
        exact go_reti (by decide +kernel) rfl (Or.inr (Or.inr ⟨by rintro ⟨z1, z2, z3, z4⟩; first | contradiction | exact z1 ⟨by assumption, by assumption⟩, rfl, rfl⟩))
    · skip
      refine go_blk (pc2 := 11) (L2 := [.ref 0, .int p, .int q, .int r1, .null]) (st2 := [.int 1]) (M2 := (A, G, PF)) (hs2 := []) (C := True) [(.iconst 1, 0, 0)] [] (by decide +kernel) rfl trivial ?_
      refine go_goto (off := 4) 15 (by decide +kernel) (by decide) ?_
      refine go_blk (pc2 := 19) (L2 := [.ref 0, .int p, .int q, .int r1, .int 1]) (st2 := [.int 1]) (M2 := (A, G, PF)) (hs2 := []) (C := True) [(.istore 4, 0, 0), (.iload 4, 0, 0)] [] (by decide +kernel) rfl trivial ?_
      refine go_ifz (cnd := .ne) (off := 27) 46 (by decide +kernel) (by decide) (fun _ => ?_) (fun (h : (1 : Int32) = 0) => absurd h (by decide))
      refine go_blk (pc2 := 47) (L2 := [.ref 0, .int p, .int q, .int r1, .int 1]) (st2 := [.int (-1)]) (M2 := (A, G, PF)) (hs2 := []) (C := True) [(.iconst (-1), 0, 0)] [] (by decide +kernel) rfl trivial ?_
      exact go_reti (by decide +kernel) rfl (Or.inr (Or.inr ⟨by rintro ⟨z1, z2, z3, z4⟩; first | contradiction | exact z1 ⟨by assumption, by assumption⟩, rfl, rfl⟩))
set_option maxRecDepth 100000 in
set_option maxHeartbeats 4000000 in
theorem s_X5_push (l : Launch) (A : Nat → Nat → Int32) (G : Nat → Nat → Int64) (lv : Nat) (hlv : A 9 3 = nI lv) (hlv4 : lv ≤ 4) : Sem l mX5_push [.ref 0] 27 (A, G, PF) 27 (fun r M2 => (lv < 4 ∧ r = some (.int (A 9 3 + 1)) ∧ M2 = ((u2 (u2 A 11 lv (A 9 2)) 9 3 (A 9 3 + 1)), G, PF)) ∨ (lv = 4 ∧ r = some (.int (-2)) ∧ M2 = (A, G, PF))) := by
  refine sem_of_go (by decide) rfl (by decide) (by decide) rfl (Nat.le_of_ble_eq_true rfl) ?_
  show Go l ro0 mX5_push 27 (A, G, PF) 0 [.ref 0] [] 27 (fun r M2 => (lv < 4 ∧ r = some (.int (A 9 3 + 1)) ∧ M2 = ((u2 (u2 A 11 lv (A 9 2)) 9 3 (A 9 3 + 1)), G, PF)) ∨ (lv = 4 ∧ r = some (.int (-2)) ∧ M2 = (A, G, PF)))
  refine go_blk (pc2 := 4) (L2 := [.ref 0]) (st2 := [.ref 9]) (M2 := (A, G, PF)) (hs2 := []) (C := True) [(.aload_n 0, 0, 0), (.getfield 19, 5, 1)] [] (by decide +kernel) rfl trivial ?_
  refine go_call (Y2 := mX2_raise) (n2 := 27) (st := []) [.ref 9] [] ck_5_90 cwX2_raise rfl (by decide +kernel) rfl (fun h => absurd h (by decide)) (fun _ => ⟨9, rfl, by decide, rfl⟩) (Nat.le_of_ble_eq_true rfl) (Or.inl rfl) (fun _ _ _ h => h) (s_X2_raise l A G lv hlv hlv4) (fun v M2 hp1 => ?_)
  rcases hp1 with ⟨hlt, rfl, rfl⟩ | ⟨hge, rfl, rfl⟩
  · show Go l ro0 mX5_push 27 ((u2 (u2 A 11 lv (A 9 2)) 9 3 (A 9 3 + 1)), G, PF) 7 [.ref 0] [.int 1] 27 _
    refine go_ifz (cnd := .eq) (off := 13) 20 (by decide +kernel) (by decide) (fun (h : (1 : Int32) = 0) => absurd h (by decide)) (fun _ => ?_)
    refine go_blk (pc2 := 14) (L2 := [.ref 0]) (st2 := [.ref 9]) (M2 := ((u2 (u2 A 11 lv (A 9 2)) 9 3 (A 9 3 + 1)), G, PF)) (hs2 := []) (C := True) [(.aload_n 0, 0, 0), (.getfield 19, 5, 1)] [] (by decide +kernel) rfl trivial ?_
    refine go_call (Y2 := mX2_level) (n2 := 27) (st := []) [.ref 9] [] ck_5_94 cwX2_level rfl (by decide +kernel) rfl (fun h => absurd h (by decide)) (fun _ => ⟨9, rfl, by decide, rfl⟩) (Nat.le_of_ble_eq_true rfl) (Or.inl rfl) (fun _ _ _ h => h) (s_X2_level l (u2 (u2 A 11 lv (A 9 2)) 9 3 (A 9 3 + 1)) G) (fun v M2 hp2 => ?_)
    obtain ⟨rfl, rfl⟩ := hp2
    show Go l ro0 mX5_push 27 ((u2 (u2 A 11 lv (A 9 2)) 9 3 (A 9 3 + 1)), G, PF) 17 [.ref 0] [.int (A 9 3 + 1)] 27 _
    refine go_goto (off := 5) 22 (by decide +kernel) (by decide) ?_
    exact go_reti (by decide +kernel) rfl (Or.inl ⟨hlt, rfl, rfl⟩)
  · show Go l ro0 mX5_push 27 (A, G, PF) 7 [.ref 0] [.int 0] 27 _
    refine go_ifz (cnd := .eq) (off := 13) 20 (by decide +kernel) (by decide) (fun _ => ?_) (fun (h : ¬ (0 : Int32) = 0) => absurd h (by decide))
    refine go_blk (pc2 := 22) (L2 := [.ref 0]) (st2 := [.int (-2)]) (M2 := (A, G, PF)) (hs2 := []) (C := True) [(.bipush (-2), 0, 0)] [] (by decide +kernel) rfl trivial ?_
    exact go_reti (by decide +kernel) rfl (Or.inr ⟨hge, rfl, rfl⟩)
set_option maxRecDepth 100000 in
set_option maxHeartbeats 4000000 in
theorem s_X5_pop (l : Launch) (A : Nat → Nat → Int32) (G : Nat → Nat → Int64) (lv : Nat) (hlv : A 9 3 = nI lv) (hlv4 : lv ≤ 4) : Sem l mX5_pop [.ref 0] 27 (A, G, PF) 27 (fun r M2 => (0 < lv ∧ r = some (.int (A 9 3 - 1)) ∧ M2 = ((u2 (u2 A 9 3 ((A 9 3) - 1)) 9 2 (A 11 (lv - 1))), G, PF)) ∨ (lv = 0 ∧ r = some (.int (-1)) ∧ M2 = (A, G, PF))) := by
  refine sem_of_go (by decide) rfl (by decide) (by decide) rfl (Nat.le_of_ble_eq_true rfl) ?_
  show Go l ro0 mX5_pop 27 (A, G, PF) 0 [.ref 0] [] 27 (fun r M2 => (0 < lv ∧ r = some (.int (A 9 3 - 1)) ∧ M2 = ((u2 (u2 A 9 3 ((A 9 3) - 1)) 9 2 (A 11 (lv - 1))), G, PF)) ∨ (lv = 0 ∧ r = some (.int (-1)) ∧ M2 = (A, G, PF)))
  refine go_blk (pc2 := 4) (L2 := [.ref 0]) (st2 := [.ref 9]) (M2 := (A, G, PF)) (hs2 := []) (C := True) [(.aload_n 0, 0, 0), (.getfield 19, 5, 1)] [] (by decide +kernel) rfl trivial ?_
  refine go_call (Y2 := mX2_lower) (n2 := 27) (st := []) [.ref 9] [] ck_5_97 cwX2_lower rfl (by decide +kernel) rfl (fun h => absurd h (by decide)) (fun _ => ⟨9, rfl, by decide, rfl⟩) (Nat.le_of_ble_eq_true rfl) (Or.inl rfl) (fun _ _ _ h => h) (s_X2_lower l A G lv hlv hlv4) (fun v M2 hp1 => ?_)
  rcases hp1 with ⟨hlt, rfl, rfl⟩ | ⟨hge, rfl, rfl⟩
  · show Go l ro0 mX5_pop 27 ((u2 (u2 A 9 3 ((A 9 3) - 1)) 9 2 (A 11 (lv - 1))), G, PF) 7 [.ref 0] [.int 1] 27 _
    refine go_ifz (cnd := .eq) (off := 13) 20 (by decide +kernel) (by decide) (fun (h : (1 : Int32) = 0) => absurd h (by decide)) (fun _ => ?_)
    refine go_blk (pc2 := 14) (L2 := [.ref 0]) (st2 := [.ref 9]) (M2 := ((u2 (u2 A 9 3 ((A 9 3) - 1)) 9 2 (A 11 (lv - 1))), G, PF)) (hs2 := []) (C := True) [(.aload_n 0, 0, 0), (.getfield 19, 5, 1)] [] (by decide +kernel) rfl trivial ?_
    refine go_call (Y2 := mX2_level) (n2 := 27) (st := []) [.ref 9] [] ck_5_94 cwX2_level rfl (by decide +kernel) rfl (fun h => absurd h (by decide)) (fun _ => ⟨9, rfl, by decide, rfl⟩) (Nat.le_of_ble_eq_true rfl) (Or.inl rfl) (fun _ _ _ h => h) (s_X2_level l (u2 (u2 A 9 3 ((A 9 3) - 1)) 9 2 (A 11 (lv - 1))) G) (fun v M2 hp2 => ?_)
    obtain ⟨rfl, rfl⟩ := hp2
    show Go l ro0 mX5_pop 27 ((u2 (u2 A 9 3 ((A 9 3) - 1)) 9 2 (A 11 (lv - 1))), G, PF) 17 [.ref 0] [.int ((A 9 3) - 1)] 27 _
    refine go_goto (off := 4) 21 (by decide +kernel) (by decide) ?_
    exact go_reti (by decide +kernel) rfl (Or.inl ⟨hlt, rfl, rfl⟩)
  · show Go l ro0 mX5_pop 27 (A, G, PF) 7 [.ref 0] [.int 0] 27 _
    refine go_ifz (cnd := .eq) (off := 13) 20 (by decide +kernel) (by decide) (fun _ => ?_) (fun (h : ¬ (0 : Int32) = 0) => absurd h (by decide))
    refine go_blk (pc2 := 21) (L2 := [.ref 0]) (st2 := [.int (-1)]) (M2 := (A, G, PF)) (hs2 := []) (C := True) [(.iconst (-1), 0, 0)] [] (by decide +kernel) rfl trivial ?_
    exact go_reti (by decide +kernel) rfl (Or.inr ⟨hge, rfl, rfl⟩)
set_option maxRecDepth 100000 in
set_option maxHeartbeats 4000000 in
theorem s_X5_refresh (l : Launch) (A : Nat → Nat → Int32) (G : Nat → Nat → Int64) (dm ncl : Nat) (hK : KI A dm ncl) (hst : A 0 5 = 0 → ∃ cnt, CacheI A cnt) : Sem l mX5_refresh [.ref 0] 27 (A, G, PF) 27 (fun r M2 => r = none ∧ ∃ A2 cnt, M2 = (A2, G, PF) ∧ CacheI A2 cnt ∧ RfF A A2 ∧ Z5 A A2) := by
  refine sem_of_go (by decide) rfl (by decide) (by decide) rfl (Nat.le_of_ble_eq_true rfl) ?_
  show Go l ro0 mX5_refresh 27 (A, G, PF) 0 [.ref 0] [] 27 (fun r M2 => r = none ∧ ∃ A2 cnt, M2 = (A2, G, PF) ∧ CacheI A2 cnt ∧ RfF A A2 ∧ Z5 A A2)
  refine go_blk (pc2 := 4) (L2 := [.ref 0]) (st2 := [.int (A 0 5)]) (M2 := (A, G, PF)) (hs2 := []) (C := True) [(.aload_n 0, 0, 0), (.getfield 44, 5, 5)] [] (by decide +kernel) rfl trivial ?_
  refine go_ifz (cnd := .eq) (off := 34) 38 (by decide +kernel) (by decide) (fun (c1 : (A 0 5) = 0) => ?_) (fun (c1 : ¬ (A 0 5) = 0) => ?_)
  · skip
    exact go_retv (by decide +kernel) rfl (⟨rfl, A, (hst (by assumption)).choose, rfl, (hst (by assumption)).choose_spec, RfF.rf A, by assumption, fun _ => rfl⟩)
  · skip
    refine go_blk (pc2 := 15) (L2 := [.ref 0]) (st2 := [.ref 1, .ref 12]) (M2 := (A, G, PF)) (hs2 := []) (C := True) [(.aload_n 0, 0, 0), (.getfield 26, 5, 2), (.aload_n 0, 0, 0), (.getfield 12, 5, 0)] [] (by decide +kernel) rfl trivial ?_
    refine go_call (Y2 := mX3_rebuild) (n2 := 27) (st := []) [.ref 12] [.ref 1] ck_5_139 cwX3_rebuild rfl (by decide +kernel) rfl (fun h => absurd h (by decide)) (fun _ => ⟨12, rfl, by decide, rfl⟩) (Nat.le_of_ble_eq_true rfl) (Or.inl rfl) (fun _ _ _ h => h) (s_X3_rebuild l A G) (fun v M2 hp2 => ?_)
    obtain ⟨rfl, A2, cnt, rfl, h364, hCI⟩ := hp2
    show Go l ro0 mX5_refresh 27 (A2, G, PF) 18 [.ref 0] [] 27 _
    refine go_blk (pc2 := 30) (L2 := [.ref 0]) (st2 := [.ref 12, .ref 1, .ref 22]) (M2 := (A2, G, PF)) (hs2 := []) (C := True) [(.aload_n 0, 0, 0), (.getfield 33, 5, 3), (.aload_n 0, 0, 0), (.getfield 12, 5, 0), (.aload_n 0, 0, 0), (.getfield 26, 5, 2)] [] (by decide +kernel) rfl trivial ?_
    refine go_call (Y2 := mX1_rebuild) (n2 := 27) (st := []) [.ref 22] [.ref 1, .ref 12] ck_5_143 cwX1_rebuild rfl (by decide +kernel) rfl (fun h => absurd h (by decide)) (fun _ => ⟨22, rfl, by decide, rfl⟩) (Nat.le_of_ble_eq_true rfl) (Or.inl rfl) (fun _ _ _ h => h) (s_X1_rebuild l A2 G cnt hCI.2.2.1 h364 (FOk_c (by rw [hCI.1 2 (by decide) (by decide), u2_row (by decide)]; exact cpy_o (by decide) 5) (by rw [hCI.1 7 (by decide) (by decide), u2_row (by decide)]; exact cpy_o (by decide) 5) (by rw [hCI.1 8 (by decide) (by decide), u2_row (by decide)]; exact cpy_o (by decide) 5) hK.1)) (fun v M2 hp3 => ?_)
    obtain ⟨rfl, A3, rfl, hC3⟩ := hp3
    show Go l ro0 mX5_refresh 27 (A3, G, PF) 33 [.ref 0] [] 27 _
    refine go_blk (pc2 := 38) (L2 := [.ref 0]) (st2 := []) (M2 := ((u2 A3 0 5 0), G, PF)) (hs2 := []) (C := (0 = 0 ∨ 0 = 1) ∧ True) [(.aload_n 0, 0, 0), (.iconst 0, 0, 0), (.putfield 44, 5, 5)] [] (by decide +kernel) rfl ⟨Or.inl rfl, trivial⟩ ?_
    exact go_retv (by decide +kernel) rfl (⟨rfl, _, cnt, rfl, refreshed (by assumption) h364 hCI hC3⟩)
set_option maxRecDepth 100000 in
set_option maxHeartbeats 4000000 in
theorem s_X5_isWorld (l : Launch) (A : Nat → Nat → Int32) (G : Nat → Nat → Int64) (dm ncl : Nat) (hK : KI A dm ncl) (s : Nat) (hs : s < 32) : Sem l mX5_isWorld [.ref 0, .int (nI s)] 27 (A, G, PF) 27 (pv (bi (Wd A dm ncl s)) (A, G, PF)) := by
  refine sem_of_go (by decide) rfl (by decide) (by decide) rfl (Nat.le_of_ble_eq_true rfl) ?_
  show Go l ro0 mX5_isWorld 27 (A, G, PF) 0 [.ref 0, .int (nI s)] [] 27 (pv (bi (Wd A dm ncl s)) (A, G, PF))
  refine go_blk (pc2 := 5) (L2 := [.ref 0, .int (nI s)]) (st2 := [.ref 1, .int (nI s)]) (M2 := (A, G, PF)) (hs2 := []) (C := True) [(.iload_n 1, 0, 0), (.aload_n 0, 0, 0), (.getfield 12, 5, 0)] [] (by decide +kernel) rfl trivial ?_
  refine go_call (Y2 := mX0_defined) (n2 := 27) (st := [.int (nI s)]) [.ref 1] [] ck_5_106 cwX0_defined rfl (by decide +kernel) rfl (fun h => absurd h (by decide)) (fun _ => ⟨1, rfl, by decide, rfl⟩) (Nat.le_of_ble_eq_true rfl) (Or.inl rfl) (fun _ _ _ h => h) (s_X0_defined l A G) (fun v M2 hp1 => ?_)
  obtain ⟨rfl, rfl⟩ := hp1
  show Go l ro0 mX5_isWorld 27 (A, G, PF) 8 [.ref 0, .int (nI s)] [.int (A 1 7), .int (nI s)] 27 _
  refine go_blk (pc2 := 11) (L2 := [.ref 0, .int (nI s)]) (st2 := [.int ((nI s) &&& ((A 1 7) ^^^ (-1)))]) (M2 := (A, G, PF)) (hs2 := []) (C := True) [(.iconst (-1), 0, 0), (.ixor, 0, 0), (.iand, 0, 0)] [] (by decide +kernel) rfl trivial ?_
  refine go_ifz (cnd := .ne) (off := 29) 40 (by decide +kernel) (by decide) (fun (c2 : ¬ ((nI s) &&& ((A 1 7) ^^^ (-1))) = 0) => ?_) (fun (c2 : ((nI s) &&& ((A 1 7) ^^^ (-1))) = 0) => ?_)
  · skip
    rw [hK.2.2.1, sub_ok s hs dm hK.2.2.2.1] at c2
    refine go_blk (pc2 := 41) (L2 := [.ref 0, .int (nI s)]) (st2 := [.int 0]) (M2 := (A, G, PF)) (hs2 := []) (C := True) [(.iconst 0, 0, 0)] [] (by decide +kernel) rfl trivial ?_
    exact go_retz (by decide +kernel) rfl (Or.inl rfl) (pv0 (by rintro ⟨z1, z2, z3⟩; contradiction))
  · skip
    rw [hK.2.2.1, sub_ok s hs dm hK.2.2.2.1] at c2
    refine go_blk (pc2 := 19) (L2 := [.ref 0, .int (nI s)]) (st2 := [.int (nI s), .ref 22]) (M2 := (A, G, PF)) (hs2 := []) (C := True) [(.aload_n 0, 0, 0), (.getfield 33, 5, 3), (.iload_n 1, 0, 0)] [] (by decide +kernel) rfl trivial ?_
    refine go_call (Y2 := mX1_isOpenSomewhere) (n2 := 27) (st := []) [.ref 22] [.int (nI s)] ck_5_146 cwX1_isOpenSomewhere rfl (by decide +kernel) rfl (fun h => absurd h (by decide)) (fun _ => ⟨22, rfl, by decide, rfl⟩) (Nat.le_of_ble_eq_true rfl) (Or.inl rfl) (fun _ _ _ h => h) (s_X1_isOpenSomewhere l A G s (by omega)) (fun v M2 hp3 => ?_)
    obtain ⟨rfl, rfl⟩ := hp3
    rcases Classical.em (∃ p, p < 5 ∧ ¬ A 23 (s * 5 + p) = 0) with hb4 | hb4
    · rw [bi_t hb4]
      show Go l ro0 mX5_isWorld 27 (A, G, PF) 22 [.ref 0, .int (nI s)] [.int 1] 27 _
      refine go_ifz (cnd := .eq) (off := 18) 40 (by decide +kernel) (by decide) (fun (h : (1 : Int32) = 0) => absurd h (by decide)) (fun _ => ?_)
      refine go_blk (pc2 := 30) (L2 := [.ref 0, .int (nI s)]) (st2 := [.int (nI s), .ref 9]) (M2 := (A, G, PF)) (hs2 := []) (C := True) [(.aload_n 0, 0, 0), (.getfield 19, 5, 1), (.iload_n 1, 0, 0)] [] (by decide +kernel) rfl trivial ?_
      refine go_call (Y2 := mX2_areSatisfiedBy) (n2 := 27) (st := []) [.ref 9] [.int (nI s)] ck_5_149 cwX2_areSatisfiedBy rfl (by decide +kernel) rfl (fun h => absurd h (by decide)) (fun _ => ⟨9, rfl, by decide, rfl⟩) (Nat.le_of_ble_eq_true rfl) (Or.inl rfl) (fun _ _ _ h => h) (s_X2_areSatisfiedBy l A G hK.2.1 ncl hK.2.2.2.2.1 hK.2.2.2.2.2 s hs) (fun v M2 hp5 => ?_)
      obtain ⟨rfl, rfl⟩ := hp5
      rcases Classical.em (SatC A s ncl) with hb6 | hb6
      · rw [bi_t hb6]
        show Go l ro0 mX5_isWorld 27 (A, G, PF) 33 [.ref 0, .int (nI s)] [.int 1] 27 _
        refine go_ifz (cnd := .eq) (off := 7) 40 (by decide +kernel) (by decide) (fun (h : (1 : Int32) = 0) => absurd h (by decide)) (fun _ => ?_)
        refine go_blk (pc2 := 37) (L2 := [.ref 0, .int (nI s)]) (st2 := [.int 1]) (M2 := (A, G, PF)) (hs2 := []) (C := True) [(.iconst 1, 0, 0)] [] (by decide +kernel) rfl trivial ?_
        refine go_goto (off := 4) 41 (by decide +kernel) (by decide) ?_
        exact go_retz (by decide +kernel) rfl (Or.inr rfl) (pv1 ⟨by assumption, by assumption, by assumption⟩)
      · rw [bi_f hb6]
        show Go l ro0 mX5_isWorld 27 (A, G, PF) 33 [.ref 0, .int (nI s)] [.int 0] 27 _
        refine go_ifz (cnd := .eq) (off := 7) 40 (by decide +kernel) (by decide) (fun _ => ?_) (fun (h : ¬ (0 : Int32) = 0) => absurd h (by decide))
        refine go_blk (pc2 := 41) (L2 := [.ref 0, .int (nI s)]) (st2 := [.int 0]) (M2 := (A, G, PF)) (hs2 := []) (C := True) [(.iconst 0, 0, 0)] [] (by decide +kernel) rfl trivial ?_
        exact go_retz (by decide +kernel) rfl (Or.inl rfl) (pv0 (by rintro ⟨z1, z2, z3⟩; contradiction))
    · rw [bi_f hb4]
      show Go l ro0 mX5_isWorld 27 (A, G, PF) 22 [.ref 0, .int (nI s)] [.int 0] 27 _
      refine go_ifz (cnd := .eq) (off := 18) 40 (by decide +kernel) (by decide) (fun _ => ?_) (fun (h : ¬ (0 : Int32) = 0) => absurd h (by decide))
      refine go_blk (pc2 := 41) (L2 := [.ref 0, .int (nI s)]) (st2 := [.int 0]) (M2 := (A, G, PF)) (hs2 := []) (C := True) [(.iconst 0, 0, 0)] [] (by decide +kernel) rfl trivial ?_
      exact go_retz (by decide +kernel) rfl (Or.inl rfl) (pv0 (by rintro ⟨z1, z2, z3⟩; contradiction))
end
section
noncomputable def cntw (A : Nat → Nat → Int32) (dm ncl : Nat) : Nat → Nat
  | 0 => 0
  | s + 1 => @ite Nat (Wd A dm ncl s) (Classical.propDecidable _) (cntw A dm ncl s + 1) (cntw A dm ncl s)
theorem cntw_t {A : Nat → Nat → Int32} {dm ncl s : Nat} (h : Wd A dm ncl s) : cntw A dm ncl (s + 1) = cntw A dm ncl s + 1 := if_pos h
theorem cntw_f {A : Nat → Nat → Int32} {dm ncl s : Nat} (h : ¬ Wd A dm ncl s) : cntw A dm ncl (s + 1) = cntw A dm ncl s := if_neg h
/-- after a refresh, an answer that is read off the memory then -/
def rfp (A : Nat → Nat → Int32) (G : Nat → Nat → Int64) (E : (Nat → Nat → Int32) → Int32) : Option Value → Mem → Prop := fun r M2 => ∃ A2 cnt, M2 = (A2, G, PF) ∧ CacheI A2 cnt ∧ RfF A A2 ∧ Z5 A A2 ∧ r = some (.int (E A2))
theorem and32 : ∀ (x : Int32) (d : Nat), d < 32 → ∃ m, m < 32 ∧ x &&& nI d = nI m := by
  intro x d hd
  refine ⟨(x &&& nI d).toBitVec.toNat, ?_, ?_⟩
  · have h1 : (x &&& nI d).toBitVec.toNat = x.toBitVec.toNat &&& (nI d).toBitVec.toNat := by simp
    rw [h1, pk_tn (by omega)]
    exact Nat.lt_of_le_of_lt Nat.and_le_right hd
  · apply Int32.toBitVec_inj.mp
    apply BitVec.eq_of_toNat_eq
    have h1 : (x &&& nI d).toBitVec.toNat < 32 := by
      have h1 : (x &&& nI d).toBitVec.toNat = x.toBitVec.toNat &&& (nI d).toBitVec.toNat := by simp
      rw [h1, pk_tn (by omega)]
      exact Nat.lt_of_le_of_lt Nat.and_le_right hd
    rw [pk_tn (by omega)]
def SW (A : Nat → Nat → Int32) (dm ncl m k : Nat) : Prop := ∃ s, s < k ∧ Wd A dm ncl s ∧ HL s m
def EW (A : Nat → Nat → Int32) (dm ncl m k : Nat) : Prop := ∀ s, s < k → Wd A dm ncl s → HL s m
theorem SWs {A : Nat → Nat → Int32} {dm ncl m k : Nat} : SW A dm ncl m (k + 1) ↔ (SW A dm ncl m k ∨ (Wd A dm ncl k ∧ HL k m)) := by
  constructor
  · rintro ⟨s, h1, h2, h3⟩
    by_cases e : s = k
    · subst e; exact Or.inr ⟨h2, h3⟩
    · exact Or.inl ⟨s, by omega, h2, h3⟩
  · rintro (⟨s, h1, h2, h3⟩ | ⟨h2, h3⟩)
    · exact ⟨s, by omega, h2, h3⟩
    · exact ⟨k, by omega, h2, h3⟩
theorem EWs {A : Nat → Nat → Int32} {dm ncl m k : Nat} : EW A dm ncl m (k + 1) ↔ (EW A dm ncl m k ∧ (Wd A dm ncl k → HL k m)) := by
  constructor
  · exact fun h => ⟨fun s h1 => h s (by omega), h k (by omega)⟩
  · rintro ⟨h1, h2⟩ s h3 h4
    by_cases e : s = k
    · subst e; exact h2 h4
    · exact h1 s (by omega) h4
noncomputable def hv (A : Nat → Nat → Int32) (dm ncl m : Nat) : Int32 := @ite Int32 (SW A dm ncl m 32) (Classical.propDecidable _) (@ite Int32 (EW A dm ncl m 32) (Classical.propDecidable _) 2 1) 0
theorem bi_n {p : Prop} : ¬ bi p = 0 ↔ p := by
  constructor
  · intro h
    exact Classical.byContradiction fun q => h (bi_f q)
  · intro h q
    rw [bi_t h] at q
    cases q
theorem bi_z {p : Prop} : bi p = 0 ↔ ¬ p := by
  constructor
  · intro h q
    rw [bi_t q] at h
    cases h
  · exact bi_f
set_option maxRecDepth 100000 in
set_option maxHeartbeats 4000000 in
theorem lp_X5_worlds (l : Launch) (A : Nat → Nat → Int32) (G : Nat → Nat → Int64) (dm ncl : Nat) (hK : KI A dm ncl) : ∀ s, s ≤ 32 → Go l ro0 mX5_worlds 27 (A, G, PF) 8 [.ref 0, .int (nI (cntw A dm ncl s)), .int (nI s)] [] 27 (pv (nI (cntw A dm ncl 32)) (A, G, PF)) := by
  refine down 32 (fun s hk ih  => ?_)
  refine go_blk (pc2 := 11) (L2 := [.ref 0, .int (nI (cntw A dm ncl s)), .int (nI s)]) (st2 := [.int 32, .int (nI s)]) (M2 := (A, G, PF)) (hs2 := []) (C := True) [(.iload_n 2, 0, 0), (.bipush 32, 0, 0)] [] (by decide +kernel) rfl trivial ?_
  refine go_cmp (cnd := .ge) (off := 20) 31 (by decide +kernel) (by decide) (fun (c1 : 32 ≤ (nI s)) => ?_) (fun (c1 : ¬ 32 ≤ (nI s)) => ?_)
  · skip
    replace c1 : 32 ≤ s := (nx_le (a := 32) (b := s) rfl rfl (by omega) (by omega)).mp c1
    refine go_blk (pc2 := 32) (L2 := [.ref 0, .int (nI (cntw A dm ncl s)), .int (nI s)]) (st2 := [.int (nI (cntw A dm ncl s))]) (M2 := (A, G, PF)) (hs2 := []) (C := True) [(.iload_n 1, 0, 0)] [] (by decide +kernel) rfl trivial ?_
    exact go_reti (by decide +kernel) rfl (pve (by rw [show s = 32 by omega]))
  · skip
    replace c1 : ¬ 32 ≤ s := fun zz => c1 ((nx_le (a := 32) (b := s) rfl rfl (by omega) (by omega)).mpr zz)
    refine go_blk (pc2 := 16) (L2 := [.ref 0, .int (nI (cntw A dm ncl s)), .int (nI s)]) (st2 := [.int (nI s), .ref 0]) (M2 := (A, G, PF)) (hs2 := []) (C := True) [(.aload_n 0, 0, 0), (.iload_n 2, 0, 0)] [] (by decide +kernel) rfl trivial ?_
    refine go_call (Y2 := mX5_isWorld) (n2 := 27) (st := []) [.ref 0] [.int (nI s)] ck_5_103 cwX5_isWorld rfl (by decide +kernel) rfl (fun h => absurd h (by decide)) (fun _ => ⟨0, rfl, by decide, rfl⟩) (Nat.le_of_ble_eq_true rfl) (Or.inl rfl) (fun _ _ _ h => h) (s_X5_isWorld l A G dm ncl hK s (by omega)) (fun v M2 hp2 => ?_)
    obtain ⟨rfl, rfl⟩ := hp2
    rcases Classical.em (Wd A dm ncl s) with hb3 | hb3
    · rw [bi_t hb3]
      show Go l ro0 mX5_worlds 27 (A, G, PF) 19 [.ref 0, .int (nI (cntw A dm ncl s)), .int (nI s)] [.int 1] 27 _
      refine go_ifz (cnd := .eq) (off := 6) 25 (by decide +kernel) (by decide) (fun (h : (1 : Int32) = 0) => absurd h (by decide)) (fun _ => ?_)
      refine go_blk (pc2 := 28) (L2 := [.ref 0, .int ((nI (cntw A dm ncl s)) + 1), .int ((nI s) + 1)]) (st2 := []) (M2 := (A, G, PF)) (hs2 := []) (C := True) [(.iinc 1 1, 0, 0), (.iinc 2 1, 0, 0)] [] (by decide +kernel) rfl trivial ?_
      refine go_goto (off := -20) 8 (by decide +kernel) (by decide) ?_
      exact go_as (ih (by omega) ) rfl (by first | rw [cntw_t (by assumption), nI_1, nI_1] | rw [cntw_f (by assumption), nI_1]) rfl
    · rw [bi_f hb3]
      show Go l ro0 mX5_worlds 27 (A, G, PF) 19 [.ref 0, .int (nI (cntw A dm ncl s)), .int (nI s)] [.int 0] 27 _
      refine go_ifz (cnd := .eq) (off := 6) 25 (by decide +kernel) (by decide) (fun _ => ?_) (fun (h : ¬ (0 : Int32) = 0) => absurd h (by decide))
      refine go_blk (pc2 := 28) (L2 := [.ref 0, .int (nI (cntw A dm ncl s)), .int ((nI s) + 1)]) (st2 := []) (M2 := (A, G, PF)) (hs2 := []) (C := True) [(.iinc 2 1, 0, 0)] [] (by decide +kernel) rfl trivial ?_
      refine go_goto (off := -20) 8 (by decide +kernel) (by decide) ?_
      exact go_as (ih (by omega) ) rfl (by first | rw [cntw_t (by assumption), nI_1, nI_1] | rw [cntw_f (by assumption), nI_1]) rfl
set_option maxRecDepth 100000 in
set_option maxHeartbeats 4000000 in
theorem s_X5_worlds (l : Launch) (A : Nat → Nat → Int32) (G : Nat → Nat → Int64) (dm ncl : Nat) (hK : KI A dm ncl) (hst : A 0 5 = 0 → ∃ cnt, CacheI A cnt) : Sem l mX5_worlds [.ref 0] 27 (A, G, PF) 27 (rfp A G (fun A2 => nI (cntw A2 dm ncl 32))) := by
  refine sem_of_go (by decide) rfl (by decide) (by decide) rfl (Nat.le_of_ble_eq_true rfl) ?_
  show Go l ro0 mX5_worlds 27 (A, G, PF) 0 [.ref 0, .null, .null] [] 27 (rfp A G (fun A2 => nI (cntw A2 dm ncl 32)))
  refine go_blk (pc2 := 1) (L2 := [.ref 0, .null, .null]) (st2 := [.ref 0]) (M2 := (A, G, PF)) (hs2 := []) (C := True) [(.aload_n 0, 0, 0)] [] (by decide +kernel) rfl trivial ?_
  refine go_call (Y2 := mX5_refresh) (n2 := 27) (st := []) [.ref 0] [] ck_5_100 cwX5_refresh rfl (by decide +kernel) rfl (fun h => absurd h (by decide)) (fun _ => ⟨0, rfl, by decide, rfl⟩) (Nat.le_of_ble_eq_true rfl) (Or.inl rfl) (fun _ _ _ h => h) (s_X5_refresh l A G dm ncl hK hst) (fun v M2 hp1 => ?_)
  obtain ⟨rfl, A2, cnt, rfl, hCa, hRf, hs0⟩ := hp1
  have hK2 := hK.rf hRf
  show Go l ro0 mX5_worlds 27 (A2, G, PF) 4 [.ref 0, .null, .null] [] 27 _
  refine go_blk (pc2 := 8) (L2 := [.ref 0, .int 0, .int 0]) (st2 := []) (M2 := (A2, G, PF)) (hs2 := []) (C := True) [(.iconst 0, 0, 0), (.istore_n 1, 0, 0), (.iconst 0, 0, 0), (.istore_n 2, 0, 0)] [] (by decide +kernel) rfl trivial ?_
  exact Go.mono (lp_X5_worlds l A2 G dm ncl hK2 0 (by omega)) (by rintro _ _ ⟨rfl, rfl⟩; exact ⟨A2, cnt, rfl, hCa, hRf, hs0, rfl⟩)
set_option maxRecDepth 100000 in
set_option maxHeartbeats 4000000 in
theorem s_X5_world (l : Launch) (A : Nat → Nat → Int32) (G : Nat → Nat → Int64) (dm ncl : Nat) (hK : KI A dm ncl) (hst : A 0 5 = 0 → ∃ cnt, CacheI A cnt) (x : Int32) : Sem l mX5_world [.ref 0, .int x] 27 (A, G, PF) 27 (rfp A G (fun A2 => bi (∃ m, m < 32 ∧ x &&& nI dm = nI m ∧ Wd A2 dm ncl m))) := by
  refine sem_of_go (by decide) rfl (by decide) (by decide) rfl (Nat.le_of_ble_eq_true rfl) ?_
  show Go l ro0 mX5_world 27 (A, G, PF) 0 [.ref 0, .int x] [] 27 (rfp A G (fun A2 => bi (∃ m, m < 32 ∧ x &&& nI dm = nI m ∧ Wd A2 dm ncl m)))
  refine go_blk (pc2 := 1) (L2 := [.ref 0, .int x]) (st2 := [.ref 0]) (M2 := (A, G, PF)) (hs2 := []) (C := True) [(.aload_n 0, 0, 0)] [] (by decide +kernel) rfl trivial ?_
  refine go_call (Y2 := mX5_refresh) (n2 := 27) (st := []) [.ref 0] [] ck_5_100 cwX5_refresh rfl (by decide +kernel) rfl (fun h => absurd h (by decide)) (fun _ => ⟨0, rfl, by decide, rfl⟩) (Nat.le_of_ble_eq_true rfl) (Or.inl rfl) (fun _ _ _ h => h) (s_X5_refresh l A G dm ncl hK hst) (fun v M2 hp1 => ?_)
  obtain ⟨rfl, A2, cnt, rfl, hCa, hRf, hs0⟩ := hp1
  have hK2 := hK.rf hRf
  show Go l ro0 mX5_world 27 (A2, G, PF) 4 [.ref 0, .int x] [] 27 _
  refine go_blk (pc2 := 10) (L2 := [.ref 0, .int x]) (st2 := [.ref 1, .int x, .ref 0]) (M2 := (A2, G, PF)) (hs2 := []) (C := True) [(.aload_n 0, 0, 0), (.iload_n 1, 0, 0), (.aload_n 0, 0, 0), (.getfield 12, 5, 0)] [] (by decide +kernel) rfl trivial ?_
  refine go_call (Y2 := mX0_defined) (n2 := 27) (st := [.int x, .ref 0]) [.ref 1] [] ck_5_106 cwX0_defined rfl (by decide +kernel) rfl (fun h => absurd h (by decide)) (fun _ => ⟨1, rfl, by decide, rfl⟩) (Nat.le_of_ble_eq_true rfl) (Or.inl rfl) (fun _ _ _ h => h) (s_X0_defined l A2 G) (fun v M2 hp2 => ?_)
  obtain ⟨rfl, rfl⟩ := hp2
  obtain ⟨m, hm32, hm⟩ := and32 x dm hK2.2.2.2.1
  show Go l ro0 mX5_world 27 (A2, G, PF) 13 [.ref 0, .int x] [.int (A2 1 7), .int x, .ref 0] 27 _
  refine go_blk (pc2 := 14) (L2 := [.ref 0, .int x]) (st2 := [.int (x &&& (A2 1 7)), .ref 0]) (M2 := (A2, G, PF)) (hs2 := []) (C := True) [(.iand, 0, 0)] [] (by decide +kernel) rfl trivial ?_
  refine go_call (Y2 := mX5_isWorld) (n2 := 27) (st := []) [.ref 0] [.int (x &&& (A2 1 7))] ck_5_103 cwX5_isWorld rfl (by decide +kernel) rfl (fun h => absurd h (by decide)) (fun _ => ⟨0, rfl, by decide, rfl⟩) (Nat.le_of_ble_eq_true rfl) (Or.inl rfl) (fun _ _ _ h => h) (by rw [hK2.2.2.1, hm]; exact s_X5_isWorld l A2 G dm ncl hK2 m hm32) (fun v M2 hp3 => ?_)
  obtain ⟨rfl, rfl⟩ := hp3
  show Go l ro0 mX5_world 27 (A2, G, PF) 17 [.ref 0, .int x] [.int (bi (Wd A2 dm ncl m))] 27 _
  exact go_retz (by decide +kernel) rfl (bi_01 _) (⟨A2, cnt, rfl, hCa, hRf, hs0, by rw [bi_c (show Wd A2 dm ncl m ↔ ∃ m, m < 32 ∧ x &&& nI dm = nI m ∧ Wd A2 dm ncl m from ⟨fun h => ⟨m, hm32, hm, h⟩, fun ⟨m2, h1, h2, h3⟩ => by rw [nI_inj (by omega) (by omega) (hm.symm.trans h2)]; exact h3⟩)]⟩)
set_option maxRecDepth 100000 in
set_option maxHeartbeats 4000000 in
theorem lp_X5_holds (l : Launch) (A : Nat → Nat → Int32) (G : Nat → Nat → Int64) (dm ncl : Nat) (hK : KI A dm ncl) (m : Nat) (hm : m < 10) (x : Int32) (hx : x = nI m) : ∀ k, k ≤ 32 → ∀ (sw ew : Int32) (j : Value), sw = bi (SW A dm ncl m k) → ew = bi (EW A dm ncl m k) → Go l ro0 mX5_holds 27 (A, G, PF) 21 [.ref 0, .int x, .int sw, .int ew, .int (nI k), j] [] 27 (pv (hv A dm ncl m) (A, G, PF)) := by
  refine down 32 (fun k hk ih sw ew j hsw hew => ?_)
  refine go_blk (pc2 := 25) (L2 := [.ref 0, .int x, .int sw, .int ew, .int (nI k), j]) (st2 := [.int 32, .int (nI k)]) (M2 := (A, G, PF)) (hs2 := []) (C := True) [(.iload 4, 0, 0), (.bipush 32, 0, 0)] [] (by decide +kernel) rfl trivial ?_
  refine go_cmp (cnd := .ge) (off := 56) 81 (by decide +kernel) (by decide) (fun (c1 : 32 ≤ (nI k)) => ?_) (fun (c1 : ¬ 32 ≤ (nI k)) => ?_)
  · skip
    replace c1 : 32 ≤ k := (nx_le (a := 32) (b := k) rfl rfl (by omega) (by omega)).mp c1
    refine go_blk (pc2 := 82) (L2 := [.ref 0, .int x, .int sw, .int ew, .int (nI k), j]) (st2 := [.int sw]) (M2 := (A, G, PF)) (hs2 := []) (C := True) [(.iload_n 2, 0, 0)] [] (by decide +kernel) rfl trivial ?_
    refine go_ifz (cnd := .ne) (off := 5) 87 (by decide +kernel) (by decide) (fun (c2 : ¬ sw = 0) => ?_) (fun (c2 : sw = 0) => ?_)
    · skip
      rw [hsw] at c2
      replace c2 := bi_n.mp c2
      rw [show k = 32 by omega] at c2
      refine go_blk (pc2 := 88) (L2 := [.ref 0, .int x, .int sw, .int ew, .int (nI k), j]) (st2 := [.int ew]) (M2 := (A, G, PF)) (hs2 := []) (C := True) [(.iload_n 3, 0, 0)] [] (by decide +kernel) rfl trivial ?_
      refine go_ifz (cnd := .eq) (off := 7) 95 (by decide +kernel) (by decide) (fun (c3 : ew = 0) => ?_) (fun (c3 : ¬ ew = 0) => ?_)
      · skip
        rw [hew] at c3
        replace c3 := bi_z.mp c3
        rw [show k = 32 by omega] at c3
        refine go_blk (pc2 := 96) (L2 := [.ref 0, .int x, .int sw, .int ew, .int (nI k), j]) (st2 := [.int 1]) (M2 := (A, G, PF)) (hs2 := []) (C := True) [(.iconst 1, 0, 0)] [] (by decide +kernel) rfl trivial ?_
        exact go_reti (by decide +kernel) rfl (pve (by unfold hv; first | rw [if_neg (by assumption)] | rw [if_pos (by assumption), if_pos (by assumption)] | rw [if_pos (by assumption), if_neg (by assumption)]))
      · skip
        rw [hew] at c3
        replace c3 := bi_n.mp c3
        rw [show k = 32 by omega] at c3
        refine go_blk (pc2 := 92) (L2 := [.ref 0, .int x, .int sw, .int ew, .int (nI k), j]) (st2 := [.int 2]) (M2 := (A, G, PF)) (hs2 := []) (C := True) [(.iconst 2, 0, 0)] [] (by decide +kernel) rfl trivial ?_
        refine go_goto (off := 4) 96 (by decide +kernel) (by decide) ?_
        exact go_reti (by decide +kernel) rfl (pve (by unfold hv; first | rw [if_neg (by assumption)] | rw [if_pos (by assumption), if_pos (by assumption)] | rw [if_pos (by assumption), if_neg (by assumption)]))
    · skip
      rw [hsw] at c2
      replace c2 := bi_z.mp c2
      rw [show k = 32 by omega] at c2
      refine go_blk (pc2 := 86) (L2 := [.ref 0, .int x, .int sw, .int ew, .int (nI k), j]) (st2 := [.int 0]) (M2 := (A, G, PF)) (hs2 := []) (C := True) [(.iconst 0, 0, 0)] [] (by decide +kernel) rfl trivial ?_
      exact go_reti (by decide +kernel) rfl (pve (by unfold hv; first | rw [if_neg (by assumption)] | rw [if_pos (by assumption), if_pos (by assumption)] | rw [if_pos (by assumption), if_neg (by assumption)]))
  · skip
    replace c1 : ¬ 32 ≤ k := fun zz => c1 ((nx_le (a := 32) (b := k) rfl rfl (by omega) (by omega)).mpr zz)
    refine go_blk (pc2 := 31) (L2 := [.ref 0, .int x, .int sw, .int ew, .int (nI k), j]) (st2 := [.int (nI k), .ref 0]) (M2 := (A, G, PF)) (hs2 := []) (C := True) [(.aload_n 0, 0, 0), (.iload 4, 0, 0)] [] (by decide +kernel) rfl trivial ?_
    refine go_call (Y2 := mX5_isWorld) (n2 := 27) (st := []) [.ref 0] [.int (nI k)] ck_5_103 cwX5_isWorld rfl (by decide +kernel) rfl (fun h => absurd h (by decide)) (fun _ => ⟨0, rfl, by decide, rfl⟩) (Nat.le_of_ble_eq_true rfl) (Or.inl rfl) (fun _ _ _ h => h) (s_X5_isWorld l A G dm ncl hK k (by omega)) (fun v M2 hp4 => ?_)
    obtain ⟨rfl, rfl⟩ := hp4
    rcases Classical.em (Wd A dm ncl k) with hb5 | hb5
    · rw [bi_t hb5]
      show Go l ro0 mX5_holds 27 (A, G, PF) 34 [.ref 0, .int x, .int sw, .int ew, .int (nI k), j] [.int 1] 27 _
      refine go_ifz (cnd := .eq) (off := 41) 75 (by decide +kernel) (by decide) (fun (h : (1 : Int32) = 0) => absurd h (by decide)) (fun _ => ?_)
      refine go_blk (pc2 := 40) (L2 := [.ref 0, .int x, .int sw, .int ew, .int (nI k), j]) (st2 := [.int x, .int (nI k)]) (M2 := (A, G, PF)) (hs2 := []) (C := True) [(.iload 4, 0, 0), (.iload_n 1, 0, 0)] [] (by decide +kernel) rfl trivial ?_
      refine go_call (Y2 := mX5_holdsIn) (n2 := 27) (st := []) [] [.int (nI k), .int x] ck_5_109 cwX5_holdsIn rfl (by decide +kernel) rfl (fun _ => rfl) (fun h => absurd rfl h) (Nat.le_of_ble_eq_true rfl) (Or.inl rfl) (fun _ _ _ h => h) (s_X5_holdsIn l A G k m (nI k) x (by omega) hm rfl hx) (fun v M2 hp6 => ?_)
      obtain ⟨rfl, rfl⟩ := hp6
      rcases Classical.em (HL k m) with hb7 | hb7
      · rw [bi_t hb7]
        show Go l ro0 mX5_holds 27 (A, G, PF) 43 [.ref 0, .int x, .int sw, .int ew, .int (nI k), j] [.int 1] 27 _
        refine go_blk (pc2 := 46) (L2 := [.ref 0, .int x, .int sw, .int ew, .int (nI k), .int 1]) (st2 := [.int sw]) (M2 := (A, G, PF)) (hs2 := []) (C := True) [(.istore 5, 0, 0), (.iload_n 2, 0, 0)] [] (by decide +kernel) rfl trivial ?_
        refine go_ifz (cnd := .ne) (off := 8) 54 (by decide +kernel) (by decide) (fun (c8 : ¬ sw = 0) => ?_) (fun (c8 : sw = 0) => ?_)
        · skip
          rw [hsw] at c8
          replace c8 := bi_n.mp c8
          refine go_blk (pc2 := 55) (L2 := [.ref 0, .int x, .int sw, .int ew, .int (nI k), .int 1]) (st2 := [.int 1]) (M2 := (A, G, PF)) (hs2 := []) (C := True) [(.iconst 1, 0, 0)] [] (by decide +kernel) rfl trivial ?_
          refine go_goto (off := 4) 59 (by decide +kernel) (by decide) ?_
          refine go_blk (pc2 := 61) (L2 := [.ref 0, .int x, .int 1, .int ew, .int (nI k), .int 1]) (st2 := [.int ew]) (M2 := (A, G, PF)) (hs2 := []) (C := True) [(.istore_n 2, 0, 0), (.iload_n 3, 0, 0)] [] (by decide +kernel) rfl trivial ?_
          refine go_ifz (cnd := .eq) (off := 12) 73 (by decide +kernel) (by decide) (fun (c9 : ew = 0) => ?_) (fun (c9 : ¬ ew = 0) => ?_)
          · skip
            rw [hew] at c9
            replace c9 := bi_z.mp c9
            refine go_blk (pc2 := 78) (L2 := [.ref 0, .int x, .int 1, .int 0, .int ((nI k) + 1), .int 1]) (st2 := []) (M2 := (A, G, PF)) (hs2 := []) (C := True) [(.iconst 0, 0, 0), (.istore_n 3, 0, 0), (.iinc 4 1, 0, 0)] [] (by decide +kernel) rfl trivial ?_
            refine go_goto (off := -57) 21 (by decide +kernel) (by decide) ?_
            exact go_as (ih (by omega) 1 0 (.int 1) (by rw [bi_c SWs]; first | rw [bi_t (Or.inl (by assumption))] | rw [bi_t (Or.inr ⟨by assumption, by assumption⟩)] | (rw [bi_f (fun zz => zz.elim (by assumption) (fun z2 => absurd z2.2 (by assumption)))]) | (rw [bi_f (fun zz => zz.elim (by assumption) (fun z2 => absurd z2.1 (by assumption)))]) | (rw [hsw]; exact bi_c ⟨Or.inl, fun zz => zz.elim id (fun z2 => absurd z2.1 (by assumption))⟩)) (by rw [bi_c EWs]; first | rw [bi_t ⟨by assumption, fun _ => by assumption⟩] | rw [bi_f (fun zz => absurd zz.1 (by assumption))] | rw [bi_f (fun zz => absurd (zz.2 (by assumption)) (by assumption))] | (rw [hew]; exact bi_c ⟨fun zz => ⟨zz, fun z2 => absurd z2 (by assumption)⟩, fun zz => zz.1⟩))) rfl (by simp only [nI_1]) rfl
          · skip
            rw [hew] at c9
            replace c9 := bi_n.mp c9
            refine go_blk (pc2 := 66) (L2 := [.ref 0, .int x, .int 1, .int ew, .int (nI k), .int 1]) (st2 := [.int 1]) (M2 := (A, G, PF)) (hs2 := []) (C := True) [(.iload 5, 0, 0)] [] (by decide +kernel) rfl trivial ?_
            refine go_ifz (cnd := .eq) (off := 7) 73 (by decide +kernel) (by decide) (fun (h : (1 : Int32) = 0) => absurd h (by decide)) (fun _ => ?_)
            refine go_blk (pc2 := 70) (L2 := [.ref 0, .int x, .int 1, .int ew, .int (nI k), .int 1]) (st2 := [.int 1]) (M2 := (A, G, PF)) (hs2 := []) (C := True) [(.iconst 1, 0, 0)] [] (by decide +kernel) rfl trivial ?_
            refine go_goto (off := 4) 74 (by decide +kernel) (by decide) ?_
            refine go_blk (pc2 := 78) (L2 := [.ref 0, .int x, .int 1, .int 1, .int ((nI k) + 1), .int 1]) (st2 := []) (M2 := (A, G, PF)) (hs2 := []) (C := True) [(.istore_n 3, 0, 0), (.iinc 4 1, 0, 0)] [] (by decide +kernel) rfl trivial ?_
            refine go_goto (off := -57) 21 (by decide +kernel) (by decide) ?_
            exact go_as (ih (by omega) 1 1 (.int 1) (by rw [bi_c SWs]; first | rw [bi_t (Or.inl (by assumption))] | rw [bi_t (Or.inr ⟨by assumption, by assumption⟩)] | (rw [bi_f (fun zz => zz.elim (by assumption) (fun z2 => absurd z2.2 (by assumption)))]) | (rw [bi_f (fun zz => zz.elim (by assumption) (fun z2 => absurd z2.1 (by assumption)))]) | (rw [hsw]; exact bi_c ⟨Or.inl, fun zz => zz.elim id (fun z2 => absurd z2.1 (by assumption))⟩)) (by rw [bi_c EWs]; first | rw [bi_t ⟨by assumption, fun _ => by assumption⟩] | rw [bi_f (fun zz => absurd zz.1 (by assumption))] | rw [bi_f (fun zz => absurd (zz.2 (by assumption)) (by assumption))] | (rw [hew]; exact bi_c ⟨fun zz => ⟨zz, fun z2 => absurd z2 (by assumption)⟩, fun zz => zz.1⟩))) rfl (by simp only [nI_1]) rfl
        · skip
          rw [hsw] at c8
          replace c8 := bi_z.mp c8
          refine go_blk (pc2 := 51) (L2 := [.ref 0, .int x, .int sw, .int ew, .int (nI k), .int 1]) (st2 := [.int 1]) (M2 := (A, G, PF)) (hs2 := []) (C := True) [(.iload 5, 0, 0)] [] (by decide +kernel) rfl trivial ?_
          refine go_ifz (cnd := .eq) (off := 7) 58 (by decide +kernel) (by decide) (fun (h : (1 : Int32) = 0) => absurd h (by decide)) (fun _ => ?_)
          refine go_blk (pc2 := 55) (L2 := [.ref 0, .int x, .int sw, .int ew, .int (nI k), .int 1]) (st2 := [.int 1]) (M2 := (A, G, PF)) (hs2 := []) (C := True) [(.iconst 1, 0, 0)] [] (by decide +kernel) rfl trivial ?_
          refine go_goto (off := 4) 59 (by decide +kernel) (by decide) ?_
          refine go_blk (pc2 := 61) (L2 := [.ref 0, .int x, .int 1, .int ew, .int (nI k), .int 1]) (st2 := [.int ew]) (M2 := (A, G, PF)) (hs2 := []) (C := True) [(.istore_n 2, 0, 0), (.iload_n 3, 0, 0)] [] (by decide +kernel) rfl trivial ?_
          refine go_ifz (cnd := .eq) (off := 12) 73 (by decide +kernel) (by decide) (fun (c10 : ew = 0) => ?_) (fun (c10 : ¬ ew = 0) => ?_)
          · skip
            rw [hew] at c10
            replace c10 := bi_z.mp c10
            refine go_blk (pc2 := 78) (L2 := [.ref 0, .int x, .int 1, .int 0, .int ((nI k) + 1), .int 1]) (st2 := []) (M2 := (A, G, PF)) (hs2 := []) (C := True) [(.iconst 0, 0, 0), (.istore_n 3, 0, 0), (.iinc 4 1, 0, 0)] [] (by decide +kernel) rfl trivial ?_
            refine go_goto (off := -57) 21 (by decide +kernel) (by decide) ?_
            exact go_as (ih (by omega) 1 0 (.int 1) (by rw [bi_c SWs]; first | rw [bi_t (Or.inl (by assumption))] | rw [bi_t (Or.inr ⟨by assumption, by assumption⟩)] | (rw [bi_f (fun zz => zz.elim (by assumption) (fun z2 => absurd z2.2 (by assumption)))]) | (rw [bi_f (fun zz => zz.elim (by assumption) (fun z2 => absurd z2.1 (by assumption)))]) | (rw [hsw]; exact bi_c ⟨Or.inl, fun zz => zz.elim id (fun z2 => absurd z2.1 (by assumption))⟩)) (by rw [bi_c EWs]; first | rw [bi_t ⟨by assumption, fun _ => by assumption⟩] | rw [bi_f (fun zz => absurd zz.1 (by assumption))] | rw [bi_f (fun zz => absurd (zz.2 (by assumption)) (by assumption))] | (rw [hew]; exact bi_c ⟨fun zz => ⟨zz, fun z2 => absurd z2 (by assumption)⟩, fun zz => zz.1⟩))) rfl (by simp only [nI_1]) rfl
          · skip
            rw [hew] at c10
            replace c10 := bi_n.mp c10
            refine go_blk (pc2 := 66) (L2 := [.ref 0, .int x, .int 1, .int ew, .int (nI k), .int 1]) (st2 := [.int 1]) (M2 := (A, G, PF)) (hs2 := []) (C := True) [(.iload 5, 0, 0)] [] (by decide +kernel) rfl trivial ?_
            refine go_ifz (cnd := .eq) (off := 7) 73 (by decide +kernel) (by decide) (fun (h : (1 : Int32) = 0) => absurd h (by decide)) (fun _ => ?_)
            refine go_blk (pc2 := 70) (L2 := [.ref 0, .int x, .int 1, .int ew, .int (nI k), .int 1]) (st2 := [.int 1]) (M2 := (A, G, PF)) (hs2 := []) (C := True) [(.iconst 1, 0, 0)] [] (by decide +kernel) rfl trivial ?_
            refine go_goto (off := 4) 74 (by decide +kernel) (by decide) ?_
            refine go_blk (pc2 := 78) (L2 := [.ref 0, .int x, .int 1, .int 1, .int ((nI k) + 1), .int 1]) (st2 := []) (M2 := (A, G, PF)) (hs2 := []) (C := True) [(.istore_n 3, 0, 0), (.iinc 4 1, 0, 0)] [] (by decide +kernel) rfl trivial ?_
            refine go_goto (off := -57) 21 (by decide +kernel) (by decide) ?_
            exact go_as (ih (by omega) 1 1 (.int 1) (by rw [bi_c SWs]; first | rw [bi_t (Or.inl (by assumption))] | rw [bi_t (Or.inr ⟨by assumption, by assumption⟩)] | (rw [bi_f (fun zz => zz.elim (by assumption) (fun z2 => absurd z2.2 (by assumption)))]) | (rw [bi_f (fun zz => zz.elim (by assumption) (fun z2 => absurd z2.1 (by assumption)))]) | (rw [hsw]; exact bi_c ⟨Or.inl, fun zz => zz.elim id (fun z2 => absurd z2.1 (by assumption))⟩)) (by rw [bi_c EWs]; first | rw [bi_t ⟨by assumption, fun _ => by assumption⟩] | rw [bi_f (fun zz => absurd zz.1 (by assumption))] | rw [bi_f (fun zz => absurd (zz.2 (by assumption)) (by assumption))] | (rw [hew]; exact bi_c ⟨fun zz => ⟨zz, fun z2 => absurd z2 (by assumption)⟩, fun zz => zz.1⟩))) rfl (by simp only [nI_1]) rfl
      · rw [bi_f hb7]
        show Go l ro0 mX5_holds 27 (A, G, PF) 43 [.ref 0, .int x, .int sw, .int ew, .int (nI k), j] [.int 0] 27 _
        refine go_blk (pc2 := 46) (L2 := [.ref 0, .int x, .int sw, .int ew, .int (nI k), .int 0]) (st2 := [.int sw]) (M2 := (A, G, PF)) (hs2 := []) (C := True) [(.istore 5, 0, 0), (.iload_n 2, 0, 0)] [] (by decide +kernel) rfl trivial ?_
        refine go_ifz (cnd := .ne) (off := 8) 54 (by decide +kernel) (by decide) (fun (c11 : ¬ sw = 0) => ?_) (fun (c11 : sw = 0) => ?_)
        · skip
          rw [hsw] at c11
          replace c11 := bi_n.mp c11
          refine go_blk (pc2 := 55) (L2 := [.ref 0, .int x, .int sw, .int ew, .int (nI k), .int 0]) (st2 := [.int 1]) (M2 := (A, G, PF)) (hs2 := []) (C := True) [(.iconst 1, 0, 0)] [] (by decide +kernel) rfl trivial ?_
          refine go_goto (off := 4) 59 (by decide +kernel) (by decide) ?_
          refine go_blk (pc2 := 61) (L2 := [.ref 0, .int x, .int 1, .int ew, .int (nI k), .int 0]) (st2 := [.int ew]) (M2 := (A, G, PF)) (hs2 := []) (C := True) [(.istore_n 2, 0, 0), (.iload_n 3, 0, 0)] [] (by decide +kernel) rfl trivial ?_
          refine go_ifz (cnd := .eq) (off := 12) 73 (by decide +kernel) (by decide) (fun (c12 : ew = 0) => ?_) (fun (c12 : ¬ ew = 0) => ?_)
          · skip
            rw [hew] at c12
            replace c12 := bi_z.mp c12
            refine go_blk (pc2 := 78) (L2 := [.ref 0, .int x, .int 1, .int 0, .int ((nI k) + 1), .int 0]) (st2 := []) (M2 := (A, G, PF)) (hs2 := []) (C := True) [(.iconst 0, 0, 0), (.istore_n 3, 0, 0), (.iinc 4 1, 0, 0)] [] (by decide +kernel) rfl trivial ?_
            refine go_goto (off := -57) 21 (by decide +kernel) (by decide) ?_
            exact go_as (ih (by omega) 1 0 (.int 0) (by rw [bi_c SWs]; first | rw [bi_t (Or.inl (by assumption))] | rw [bi_t (Or.inr ⟨by assumption, by assumption⟩)] | (rw [bi_f (fun zz => zz.elim (by assumption) (fun z2 => absurd z2.2 (by assumption)))]) | (rw [bi_f (fun zz => zz.elim (by assumption) (fun z2 => absurd z2.1 (by assumption)))]) | (rw [hsw]; exact bi_c ⟨Or.inl, fun zz => zz.elim id (fun z2 => absurd z2.1 (by assumption))⟩)) (by rw [bi_c EWs]; first | rw [bi_t ⟨by assumption, fun _ => by assumption⟩] | rw [bi_f (fun zz => absurd zz.1 (by assumption))] | rw [bi_f (fun zz => absurd (zz.2 (by assumption)) (by assumption))] | (rw [hew]; exact bi_c ⟨fun zz => ⟨zz, fun z2 => absurd z2 (by assumption)⟩, fun zz => zz.1⟩))) rfl (by simp only [nI_1]) rfl
          · skip
            rw [hew] at c12
            replace c12 := bi_n.mp c12
            refine go_blk (pc2 := 66) (L2 := [.ref 0, .int x, .int 1, .int ew, .int (nI k), .int 0]) (st2 := [.int 0]) (M2 := (A, G, PF)) (hs2 := []) (C := True) [(.iload 5, 0, 0)] [] (by decide +kernel) rfl trivial ?_
            refine go_ifz (cnd := .eq) (off := 7) 73 (by decide +kernel) (by decide) (fun _ => ?_) (fun (h : ¬ (0 : Int32) = 0) => absurd h (by decide))
            refine go_blk (pc2 := 78) (L2 := [.ref 0, .int x, .int 1, .int 0, .int ((nI k) + 1), .int 0]) (st2 := []) (M2 := (A, G, PF)) (hs2 := []) (C := True) [(.iconst 0, 0, 0), (.istore_n 3, 0, 0), (.iinc 4 1, 0, 0)] [] (by decide +kernel) rfl trivial ?_
            refine go_goto (off := -57) 21 (by decide +kernel) (by decide) ?_
            exact go_as (ih (by omega) 1 0 (.int 0) (by rw [bi_c SWs]; first | rw [bi_t (Or.inl (by assumption))] | rw [bi_t (Or.inr ⟨by assumption, by assumption⟩)] | (rw [bi_f (fun zz => zz.elim (by assumption) (fun z2 => absurd z2.2 (by assumption)))]) | (rw [bi_f (fun zz => zz.elim (by assumption) (fun z2 => absurd z2.1 (by assumption)))]) | (rw [hsw]; exact bi_c ⟨Or.inl, fun zz => zz.elim id (fun z2 => absurd z2.1 (by assumption))⟩)) (by rw [bi_c EWs]; first | rw [bi_t ⟨by assumption, fun _ => by assumption⟩] | rw [bi_f (fun zz => absurd zz.1 (by assumption))] | rw [bi_f (fun zz => absurd (zz.2 (by assumption)) (by assumption))] | (rw [hew]; exact bi_c ⟨fun zz => ⟨zz, fun z2 => absurd z2 (by assumption)⟩, fun zz => zz.1⟩))) rfl (by simp only [nI_1]) rfl
        · skip
          rw [hsw] at c11
          replace c11 := bi_z.mp c11
          refine go_blk (pc2 := 51) (L2 := [.ref 0, .int x, .int sw, .int ew, .int (nI k), .int 0]) (st2 := [.int 0]) (M2 := (A, G, PF)) (hs2 := []) (C := True) [(.iload 5, 0, 0)] [] (by decide +kernel) rfl trivial ?_
          refine go_ifz (cnd := .eq) (off := 7) 58 (by decide +kernel) (by decide) (fun _ => ?_) (fun (h : ¬ (0 : Int32) = 0) => absurd h (by decide))
          refine go_blk (pc2 := 61) (L2 := [.ref 0, .int x, .int 0, .int ew, .int (nI k), .int 0]) (st2 := [.int ew]) (M2 := (A, G, PF)) (hs2 := []) (C := True) [(.iconst 0, 0, 0), (.istore_n 2, 0, 0), (.iload_n 3, 0, 0)] [] (by decide +kernel) rfl trivial ?_
          refine go_ifz (cnd := .eq) (off := 12) 73 (by decide +kernel) (by decide) (fun (c13 : ew = 0) => ?_) (fun (c13 : ¬ ew = 0) => ?_)
          · skip
            rw [hew] at c13
            replace c13 := bi_z.mp c13
            refine go_blk (pc2 := 78) (L2 := [.ref 0, .int x, .int 0, .int 0, .int ((nI k) + 1), .int 0]) (st2 := []) (M2 := (A, G, PF)) (hs2 := []) (C := True) [(.iconst 0, 0, 0), (.istore_n 3, 0, 0), (.iinc 4 1, 0, 0)] [] (by decide +kernel) rfl trivial ?_
            refine go_goto (off := -57) 21 (by decide +kernel) (by decide) ?_
            exact go_as (ih (by omega) 0 0 (.int 0) (by rw [bi_c SWs]; first | rw [bi_t (Or.inl (by assumption))] | rw [bi_t (Or.inr ⟨by assumption, by assumption⟩)] | (rw [bi_f (fun zz => zz.elim (by assumption) (fun z2 => absurd z2.2 (by assumption)))]) | (rw [bi_f (fun zz => zz.elim (by assumption) (fun z2 => absurd z2.1 (by assumption)))]) | (rw [hsw]; exact bi_c ⟨Or.inl, fun zz => zz.elim id (fun z2 => absurd z2.1 (by assumption))⟩)) (by rw [bi_c EWs]; first | rw [bi_t ⟨by assumption, fun _ => by assumption⟩] | rw [bi_f (fun zz => absurd zz.1 (by assumption))] | rw [bi_f (fun zz => absurd (zz.2 (by assumption)) (by assumption))] | (rw [hew]; exact bi_c ⟨fun zz => ⟨zz, fun z2 => absurd z2 (by assumption)⟩, fun zz => zz.1⟩))) rfl (by simp only [nI_1]) rfl
          · skip
            rw [hew] at c13
            replace c13 := bi_n.mp c13
            refine go_blk (pc2 := 66) (L2 := [.ref 0, .int x, .int 0, .int ew, .int (nI k), .int 0]) (st2 := [.int 0]) (M2 := (A, G, PF)) (hs2 := []) (C := True) [(.iload 5, 0, 0)] [] (by decide +kernel) rfl trivial ?_
            refine go_ifz (cnd := .eq) (off := 7) 73 (by decide +kernel) (by decide) (fun _ => ?_) (fun (h : ¬ (0 : Int32) = 0) => absurd h (by decide))
            refine go_blk (pc2 := 78) (L2 := [.ref 0, .int x, .int 0, .int 0, .int ((nI k) + 1), .int 0]) (st2 := []) (M2 := (A, G, PF)) (hs2 := []) (C := True) [(.iconst 0, 0, 0), (.istore_n 3, 0, 0), (.iinc 4 1, 0, 0)] [] (by decide +kernel) rfl trivial ?_
            refine go_goto (off := -57) 21 (by decide +kernel) (by decide) ?_
            exact go_as (ih (by omega) 0 0 (.int 0) (by rw [bi_c SWs]; first | rw [bi_t (Or.inl (by assumption))] | rw [bi_t (Or.inr ⟨by assumption, by assumption⟩)] | (rw [bi_f (fun zz => zz.elim (by assumption) (fun z2 => absurd z2.2 (by assumption)))]) | (rw [bi_f (fun zz => zz.elim (by assumption) (fun z2 => absurd z2.1 (by assumption)))]) | (rw [hsw]; exact bi_c ⟨Or.inl, fun zz => zz.elim id (fun z2 => absurd z2.1 (by assumption))⟩)) (by rw [bi_c EWs]; first | rw [bi_t ⟨by assumption, fun _ => by assumption⟩] | rw [bi_f (fun zz => absurd zz.1 (by assumption))] | rw [bi_f (fun zz => absurd (zz.2 (by assumption)) (by assumption))] | (rw [hew]; exact bi_c ⟨fun zz => ⟨zz, fun z2 => absurd z2 (by assumption)⟩, fun zz => zz.1⟩))) rfl (by simp only [nI_1]) rfl
    · rw [bi_f hb5]
      show Go l ro0 mX5_holds 27 (A, G, PF) 34 [.ref 0, .int x, .int sw, .int ew, .int (nI k), j] [.int 0] 27 _
      refine go_ifz (cnd := .eq) (off := 41) 75 (by decide +kernel) (by decide) (fun _ => ?_) (fun (h : ¬ (0 : Int32) = 0) => absurd h (by decide))
      refine go_blk (pc2 := 78) (L2 := [.ref 0, .int x, .int sw, .int ew, .int ((nI k) + 1), j]) (st2 := []) (M2 := (A, G, PF)) (hs2 := []) (C := True) [(.iinc 4 1, 0, 0)] [] (by decide +kernel) rfl trivial ?_
      refine go_goto (off := -57) 21 (by decide +kernel) (by decide) ?_
      exact go_as (ih (by omega) sw ew (j) (by rw [bi_c SWs]; first | rw [bi_t (Or.inl (by assumption))] | rw [bi_t (Or.inr ⟨by assumption, by assumption⟩)] | (rw [bi_f (fun zz => zz.elim (by assumption) (fun z2 => absurd z2.2 (by assumption)))]) | (rw [bi_f (fun zz => zz.elim (by assumption) (fun z2 => absurd z2.1 (by assumption)))]) | (rw [hsw]; exact bi_c ⟨Or.inl, fun zz => zz.elim id (fun z2 => absurd z2.1 (by assumption))⟩)) (by rw [bi_c EWs]; first | rw [bi_t ⟨by assumption, fun _ => by assumption⟩] | rw [bi_f (fun zz => absurd zz.1 (by assumption))] | rw [bi_f (fun zz => absurd (zz.2 (by assumption)) (by assumption))] | (rw [hew]; exact bi_c ⟨fun zz => ⟨zz, fun z2 => absurd z2 (by assumption)⟩, fun zz => zz.1⟩))) rfl (by simp only [nI_1]) rfl
set_option maxRecDepth 100000 in
set_option maxHeartbeats 4000000 in
theorem s_X5_holds (l : Launch) (A : Nat → Nat → Int32) (G : Nat → Nat → Int64) (dm ncl : Nat) (hK : KI A dm ncl) (hst : A 0 5 = 0 → ∃ cnt, CacheI A cnt) (x : Int32) : Sem l mX5_holds [.ref 0, .int x] 27 (A, G, PF) 27 (fun r M2 => (¬ Dfd dm x ∧ r = some (.int (-1)) ∧ M2 = (A, G, PF)) ∨ ∃ m, m < 10 ∧ x = nI m ∧ dm.testBit (m / 2) = true ∧ rfp A G (fun A2 => hv A2 dm ncl m) r M2) := by
  refine sem_of_go (by decide) rfl (by decide) (by decide) rfl (Nat.le_of_ble_eq_true rfl) ?_
  show Go l ro0 mX5_holds 27 (A, G, PF) 0 [.ref 0, .int x, .null, .null, .null, .null] [] 27 (fun r M2 => (¬ Dfd dm x ∧ r = some (.int (-1)) ∧ M2 = (A, G, PF)) ∨ ∃ m, m < 10 ∧ x = nI m ∧ dm.testBit (m / 2) = true ∧ rfp A G (fun A2 => hv A2 dm ncl m) r M2)
  refine go_blk (pc2 := 2) (L2 := [.ref 0, .int x, .null, .null, .null, .null]) (st2 := [.int x, .ref 0]) (M2 := (A, G, PF)) (hs2 := []) (C := True) [(.aload_n 0, 0, 0), (.iload_n 1, 0, 0)] [] (by decide +kernel) rfl trivial ?_
  refine go_call (Y2 := mX5_isDefined) (n2 := 27) (st := []) [.ref 0] [.int x] ck_5_77 cwX5_isDefined rfl (by decide +kernel) rfl (fun h => absurd h (by decide)) (fun _ => ⟨0, rfl, by decide, rfl⟩) (Nat.le_of_ble_eq_true rfl) (Or.inl rfl) (fun _ _ _ h => h) (s_X5_isDefined l A G dm hK.2.2.1 hK.2.2.2.1 x) (fun v M2 hp1 => ?_)
  obtain ⟨rfl, rfl⟩ := hp1
  rcases Classical.em (Dfd dm x) with hb2 | hb2
  · rw [bi_t hb2]
    show Go l ro0 mX5_holds 27 (A, G, PF) 5 [.ref 0, .int x, .null, .null, .null, .null] [.int 1] 27 _
    obtain ⟨m, hm, hx, htb⟩ := hb2
    refine go_ifz (cnd := .ne) (off := 5) 10 (by decide +kernel) (by decide) (fun _ => ?_) (fun (h : (1 : Int32) = 0) => absurd h (by decide))
    refine go_blk (pc2 := 11) (L2 := [.ref 0, .int x, .null, .null, .null, .null]) (st2 := [.ref 0]) (M2 := (A, G, PF)) (hs2 := []) (C := True) [(.aload_n 0, 0, 0)] [] (by decide +kernel) rfl trivial ?_
    refine go_call (Y2 := mX5_refresh) (n2 := 27) (st := []) [.ref 0] [] ck_5_100 cwX5_refresh rfl (by decide +kernel) rfl (fun h => absurd h (by decide)) (fun _ => ⟨0, rfl, by decide, rfl⟩) (Nat.le_of_ble_eq_true rfl) (Or.inl rfl) (fun _ _ _ h => h) (s_X5_refresh l A G dm ncl hK hst) (fun v M2 hp3 => ?_)
    obtain ⟨rfl, A2, cnt, rfl, hCa, hRf, hs0⟩ := hp3
    have hK2 := hK.rf hRf
    show Go l ro0 mX5_holds 27 (A2, G, PF) 14 [.ref 0, .int x, .null, .null, .null, .null] [] 27 _
    refine go_blk (pc2 := 21) (L2 := [.ref 0, .int x, .int 0, .int 1, .int 0, .null]) (st2 := []) (M2 := (A2, G, PF)) (hs2 := []) (C := True) [(.iconst 0, 0, 0), (.istore_n 2, 0, 0), (.iconst 1, 0, 0), (.istore_n 3, 0, 0), (.iconst 0, 0, 0), (.istore 4, 0, 0)] [] (by decide +kernel) rfl trivial ?_
    exact Go.mono (lp_X5_holds l A2 G dm ncl hK2 m hm x hx 0 (by omega) 0 1 _ (bi_f (fun ⟨s, h, _⟩ => absurd h (by omega))).symm (bi_t (fun s h => absurd h (by omega))).symm) (by rintro _ _ ⟨rfl, rfl⟩; exact Or.inr ⟨m, hm, hx, htb, A2, cnt, rfl, hCa, hRf, hs0, rfl⟩)
  · rw [bi_f hb2]
    show Go l ro0 mX5_holds 27 (A, G, PF) 5 [.ref 0, .int x, .null, .null, .null, .null] [.int 0] 27 _
    refine go_ifz (cnd := .ne) (off := 5) 10 (by decide +kernel) (by decide) (fun (h : ¬ (0 : Int32) = 0) => absurd h (by decide)) (fun _ => ?_)
    refine go_blk (pc2 := 9) (L2 := [.ref 0, .int x, .null, .null, .null, .null]) (st2 := [.int (-1)]) (M2 := (A, G, PF)) (hs2 := []) (C := True) [(.iconst (-1), 0, 0)] [] (by decide +kernel) rfl trivial ?_
    exact go_reti (by decide +kernel) rfl (Or.inl ⟨by assumption, rfl, rfl⟩)
set_option maxRecDepth 100000 in
set_option maxHeartbeats 4000000 in
theorem s_X5_top (l : Launch) (A : Nat → Nat → Int32) (G : Nat → Nat → Int64) (x : Int32) : Sem l mX5_top [.ref 0, .int x] 27 (A, G, PF) 27 (pl (if x = 0 then G 0 6 else if x = 1 then G 0 7 else 0) (A, G, PF)) := by
  refine sem_of_go (by decide) rfl (by decide) (by decide) rfl (Nat.le_of_ble_eq_true rfl) ?_
  show Go l ro0 mX5_top 27 (A, G, PF) 0 [.ref 0, .int x] [] 27 (pl (if x = 0 then G 0 6 else if x = 1 then G 0 7 else 0) (A, G, PF))
  refine go_blk (pc2 := 1) (L2 := [.ref 0, .int x]) (st2 := [.int x]) (M2 := (A, G, PF)) (hs2 := []) (C := True) [(.iload_n 1, 0, 0)] [] (by decide +kernel) rfl trivial ?_
  refine go_ifz (cnd := .ne) (off := 8) 9 (by decide +kernel) (by decide) (fun (c1 : ¬ x = 0) => ?_) (fun (c1 : x = 0) => ?_)
  · skip
    refine go_blk (pc2 := 11) (L2 := [.ref 0, .int x]) (st2 := [.int 1, .int x]) (M2 := (A, G, PF)) (hs2 := []) (C := True) [(.iload_n 1, 0, 0), (.iconst 1, 0, 0)] [] (by decide +kernel) rfl trivial ?_
    refine go_cmp (cnd := .ne) (off := 10) 21 (by decide +kernel) (by decide) (fun (c2 : ¬ x = 1) => ?_) (fun (c2 : x = 1) => ?_)
    · skip
      refine go_blk (pc2 := 22) (L2 := [.ref 0, .int x]) (st2 := [.long 0]) (M2 := (A, G, PF)) (hs2 := []) (C := True) [(.lconst 0, 0, 0)] [] (by decide +kernel) rfl trivial ?_
      exact go_retl (by decide +kernel) rfl (ple (by first | rw [if_pos (by assumption)] | rw [if_neg (by assumption), if_pos (by assumption)] | rw [if_neg (by assumption), if_neg (by assumption)]))
    · skip
      refine go_blk (pc2 := 18) (L2 := [.ref 0, .int x]) (st2 := [.long (G 0 7)]) (M2 := (A, G, PF)) (hs2 := []) (C := True) [(.aload_n 0, 0, 0), (.getfield 52, 5, 7)] [] (by decide +kernel) rfl trivial ?_
      refine go_goto (off := 4) 22 (by decide +kernel) (by decide) ?_
      exact go_retl (by decide +kernel) rfl (ple (by first | rw [if_pos (by assumption)] | rw [if_neg (by assumption), if_pos (by assumption)] | rw [if_neg (by assumption), if_neg (by assumption)]))
  · skip
    refine go_blk (pc2 := 8) (L2 := [.ref 0, .int x]) (st2 := [.long (G 0 6)]) (M2 := (A, G, PF)) (hs2 := []) (C := True) [(.aload_n 0, 0, 0), (.getfield 48, 5, 6)] [] (by decide +kernel) rfl trivial ?_
    exact go_retl (by decide +kernel) rfl (ple (by first | rw [if_pos (by assumption)] | rw [if_neg (by assumption), if_pos (by assumption)] | rw [if_neg (by assumption), if_neg (by assumption)]))
theorem ccf_c {A A2 : Nat → Nat → Int32} (h17 : A2 17 = A 17) (h18 : A2 18 = A 18) (h19 : A2 19 = A 19) (h20 : A2 20 = A 20) (h21 : A2 21 = A 21) (a b c nd : Int32) (k : Nat) : ccf A2 a b c nd k = ccf A a b c nd k := by
  induction k with
  | zero => rfl
  | succ k ih =>
    have ef : fit A2 nd k = fit A nd k := by simp only [fit, h21]
    have ev : vS A2 a b c k = vS A a b c k := by simp only [vS, h17, h18, h19]
    have ed : dS A2 k = dS A k := by simp only [dS, h20]
    rcases Classical.em (fit A nd k) with q | q
    · rw [ccf_t q, ccf_t (by rw [ef]; exact q), ih, ev, ed, h21]
    · rw [ccf_f q, ccf_f (by rw [ef]; exact q), ih]
noncomputable def pks (A : Nat → Nat → Int32) (a b c : Int32) (cnt : Nat) (t : Tr) (s : Nat) : Nat → Tr
  | 0 => t
  | p + 1 => @ite Tr (¬ A 23 (s * 5 + p) = 0) (Classical.propDecidable _) (incf (pks A a b c cnt t s p) (ccf A a b c (A 24 (s * 5 + p)) cnt) (A 25 (s * 5 + p))) (pks A a b c cnt t s p)
theorem pks_t {A : Nat → Nat → Int32} {a b c : Int32} {cnt s p : Nat} {t : Tr} (h : ¬ A 23 (s * 5 + p) = 0) : pks A a b c cnt t s (p + 1) = incf (pks A a b c cnt t s p) (ccf A a b c (A 24 (s * 5 + p)) cnt) (A 25 (s * 5 + p)) := if_pos h
theorem pks_f {A : Nat → Nat → Int32} {a b c : Int32} {cnt s p : Nat} {t : Tr} (h : ¬ ¬ A 23 (s * 5 + p) = 0) : pks A a b c cnt t s (p + 1) = pks A a b c cnt t s p := if_neg h
noncomputable def pkw (A : Nat → Nat → Int32) (a b c : Int32) (dm ncl cnt : Nat) : Nat → Tr
  | 0 => (0, 0, 0)
  | s + 1 => @ite Tr (Wd A dm ncl s) (Classical.propDecidable _) (pks A a b c cnt (pkw A a b c dm ncl cnt s) s 5) (pkw A a b c dm ncl cnt s)
theorem pkw_t {A : Nat → Nat → Int32} {a b c : Int32} {dm ncl cnt s : Nat} (h : Wd A dm ncl s) : pkw A a b c dm ncl cnt (s + 1) = pks A a b c cnt (pkw A a b c dm ncl cnt s) s 5 := if_pos h
theorem pkw_f {A : Nat → Nat → Int32} {a b c : Int32} {dm ncl cnt s : Nat} (h : ¬ Wd A dm ncl s) : pkw A a b c dm ncl cnt (s + 1) = pkw A a b c dm ncl cnt s := if_neg h
theorem PkF.row {A A2 : Nat → Nat → Int32} {G G2 : Nat → Nat → Int64} {t : Tr} (h : PkF A G A2 G2 t) {o : Nat} (ho : o ≠ 26) : A2 o = A o := by
  funext k
  exact h.1 o k (by omega)
set_option maxRecDepth 100000 in
set_option maxHeartbeats 4000000 in
theorem lp_X5_climbWorld (l : Launch) (A : Nat → Nat → Int32) (G : Nat → Nat → Int64) (cnt : Nat) (hc : A 12 9 = nI cnt) (hc364 : cnt ≤ 364) (s : Nat) (hs : s < 32) : ∀ p, p ≤ 5 → ∀ A2 G2, PkF A G A2 G2 (pks A (A 26 0) (A 26 1) (A 26 2) cnt (G 26 3, G 26 4, A 26 5) s p) → ∀ j : Value, Go l ro0 mX5_climbWorld 27 (A2, G2, PF) 2 [.ref 0, .int (nI s), .int (nI p), j] [] 27 (fun r M2 => r = none ∧ ∃ A2 G2, M2 = (A2, G2, PF) ∧ PkF A G A2 G2 (pks A (A 26 0) (A 26 1) (A 26 2) cnt (G 26 3, G 26 4, A 26 5) s 5)) := by
  refine down 5 (fun p hp ih A2 G2 hI j => ?_)
  have e23 : A2 23 (s * 5 + p) = A 23 (s * 5 + p) := hI.1 23 _ (by omega)
  refine go_blk (pc2 := 4) (L2 := [.ref 0, .int (nI s), .int (nI p), j]) (st2 := [.int 5, .int (nI p)]) (M2 := (A2, G2, PF)) (hs2 := []) (C := True) [(.iload_n 2, 0, 0), (.iconst 5, 0, 0)] [] (by decide +kernel) rfl trivial ?_
  refine go_cmp (cnd := .ge) (off := 53) 57 (by decide +kernel) (by decide) (fun (c1 : 5 ≤ (nI p)) => ?_) (fun (c1 : ¬ 5 ≤ (nI p)) => ?_)
  · skip
    replace c1 : 5 ≤ p := (nx_le (a := 5) (b := p) rfl rfl (by omega) (by omega)).mp c1
    exact go_retv (by decide +kernel) rfl (⟨rfl, A2, G2, rfl, by obtain rfl : p = 5 := (by omega); exact hI⟩)
  · skip
    replace c1 : ¬ 5 ≤ p := fun zz => c1 ((nx_le (a := 5) (b := p) rfl rfl (by omega) (by omega)).mpr zz)
    refine go_blk (pc2 := 9) (L2 := [.ref 0, .int (nI s), .int (nI p), j]) (st2 := [.int (nI p), .int (nI s)]) (M2 := (A2, G2, PF)) (hs2 := []) (C := True) [(.iload_n 1, 0, 0), (.iload_n 2, 0, 0)] [] (by decide +kernel) rfl trivial ?_
    refine go_call (Y2 := mX1_cellOf) (n2 := 27) (st := []) [] [.int (nI s), .int (nI p)] ck_5_159 cwX1_cellOf rfl (by decide +kernel) rfl (fun _ => rfl) (fun h => absurd rfl h) (Nat.le_of_ble_eq_true rfl) (Or.inl rfl) (fun _ _ _ h => h) (s_X1_cellOf l A2 G2 (nI s) (nI p)) (fun v M2 hp2 => ?_)
    obtain ⟨rfl, rfl⟩ := hp2
    show Go l ro0 mX5_climbWorld 27 (A2, G2, PF) 12 [.ref 0, .int (nI s), .int (nI p), j] [.int ((nI s) * 5 + (nI p))] 27 _
    refine go_blk (pc2 := 18) (L2 := [.ref 0, .int (nI s), .int (nI p), .int ((nI s) * 5 + (nI p))]) (st2 := [.int ((nI s) * 5 + (nI p)), .ref 22]) (M2 := (A2, G2, PF)) (hs2 := []) (C := True) [(.istore_n 3, 0, 0), (.aload_n 0, 0, 0), (.getfield 33, 5, 3), (.iload_n 3, 0, 0)] [] (by decide +kernel) rfl trivial ?_
    refine go_call (Y2 := mX1_isOpen) (n2 := 27) (st := []) [.ref 22] [.int ((nI s) * 5 + (nI p))] ck_5_163 cwX1_isOpen rfl (by decide +kernel) rfl (fun h => absurd h (by decide)) (fun _ => ⟨22, rfl, by decide, rfl⟩) (Nat.le_of_ble_eq_true rfl) (Or.inl rfl) (fun _ _ _ h => h) (s_X1_isOpen l A2 G2 (s * 5 + p) ((nI s) * 5 + (nI p)) (by first | rfl | (simp only [nI, Int32.ofNat_add, Int32.ofNat_mul]; done) | (simp only [nI, Int32.ofNat_add, Int32.ofNat_mul]; rfl)) (by omega)) (fun v M2 hp3 => ?_)
    obtain ⟨rfl, rfl⟩ := hp3
    rw [e23]
    rcases Classical.em (¬ A 23 (s * 5 + p) = 0) with hb4 | hb4
    · rw [bi_t hb4]
      show Go l ro0 mX5_climbWorld 27 (A2, G2, PF) 21 [.ref 0, .int (nI s), .int (nI p), .int ((nI s) * 5 + (nI p))] [.int 1] 27 _
      refine go_ifz (cnd := .eq) (off := 30) 51 (by decide +kernel) (by decide) (fun (h : (1 : Int32) = 0) => absurd h (by decide)) (fun _ => ?_)
      refine go_blk (pc2 := 37) (L2 := [.ref 0, .int (nI s), .int (nI p), .int ((nI s) * 5 + (nI p))]) (st2 := [.int ((nI s) * 5 + (nI p)), .ref 22, .ref 12, .ref 26]) (M2 := (A2, G2, PF)) (hs2 := []) (C := True) [(.aload_n 0, 0, 0), (.getfield 40, 5, 4), (.aload_n 0, 0, 0), (.getfield 26, 5, 2), (.aload_n 0, 0, 0), (.getfield 33, 5, 3), (.iload_n 3, 0, 0)] [] (by decide +kernel) rfl trivial ?_
      refine go_call (Y2 := mX1_neededIn) (n2 := 27) (st := [.ref 12, .ref 26]) [.ref 22] [.int ((nI s) * 5 + (nI p))] ck_5_166 cwX1_neededIn rfl (by decide +kernel) rfl (fun h => absurd h (by decide)) (fun _ => ⟨22, rfl, by decide, rfl⟩) (Nat.le_of_ble_eq_true rfl) (Or.inl rfl) (fun _ _ _ h => h) (s_X1_neededIn l A2 G2 (s * 5 + p) ((nI s) * 5 + (nI p)) (by first | rfl | (simp only [nI, Int32.ofNat_add, Int32.ofNat_mul]; done) | (simp only [nI, Int32.ofNat_add, Int32.ofNat_mul]; rfl)) (by omega)) (fun v M2 hp5 => ?_)
      obtain ⟨rfl, rfl⟩ := hp5
      show Go l ro0 mX5_climbWorld 27 (A2, G2, PF) 40 [.ref 0, .int (nI s), .int (nI p), .int ((nI s) * 5 + (nI p))] [.int (A2 24 (s * 5 + p)), .ref 12, .ref 26] 27 _
      refine go_blk (pc2 := 45) (L2 := [.ref 0, .int (nI s), .int (nI p), .int ((nI s) * 5 + (nI p))]) (st2 := [.int ((nI s) * 5 + (nI p)), .ref 22, .int (A2 24 (s * 5 + p)), .ref 12, .ref 26]) (M2 := (A2, G2, PF)) (hs2 := []) (C := True) [(.aload_n 0, 0, 0), (.getfield 33, 5, 3), (.iload_n 3, 0, 0)] [] (by decide +kernel) rfl trivial ?_
      refine go_call (Y2 := mX1_soughtIn) (n2 := 27) (st := [.int (A2 24 (s * 5 + p)), .ref 12, .ref 26]) [.ref 22] [.int ((nI s) * 5 + (nI p))] ck_5_170 cwX1_soughtIn rfl (by decide +kernel) rfl (fun h => absurd h (by decide)) (fun _ => ⟨22, rfl, by decide, rfl⟩) (Nat.le_of_ble_eq_true rfl) (Or.inl rfl) (fun _ _ _ h => h) (s_X1_soughtIn l A2 G2 (s * 5 + p) ((nI s) * 5 + (nI p)) (by first | rfl | (simp only [nI, Int32.ofNat_add, Int32.ofNat_mul]; done) | (simp only [nI, Int32.ofNat_add, Int32.ofNat_mul]; rfl)) (by omega)) (fun v M2 hp6 => ?_)
      obtain ⟨rfl, rfl⟩ := hp6
      show Go l ro0 mX5_climbWorld 27 (A2, G2, PF) 48 [.ref 0, .int (nI s), .int (nI p), .int ((nI s) * 5 + (nI p))] [.int (A2 25 (s * 5 + p)), .int (A2 24 (s * 5 + p)), .ref 12, .ref 26] 27 _
      refine go_call (Y2 := mX4_include) (n2 := 27) (st := []) [.ref 26] [.ref 12, .int (A2 24 (s * 5 + p)), .int (A2 25 (s * 5 + p))] ck_5_173 cwX4_include rfl (by decide +kernel) rfl (fun h => absurd h (by decide)) (fun _ => ⟨26, rfl, by decide, rfl⟩) (Nat.le_of_ble_eq_true rfl) (Or.inl rfl) (fun _ _ _ h => h) (s_X4_include l A2 G2 cnt (by rw [hI.row (by decide)]; exact hc) hc364 (A2 24 (s * 5 + p)) (A2 25 (s * 5 + p))) (fun v M2 hp7 => ?_)
      obtain ⟨rfl, A3, G3, rfl, hF⟩ := hp7
      show Go l ro0 mX5_climbWorld 27 (A3, G3, PF) 51 [.ref 0, .int (nI s), .int (nI p), .int ((nI s) * 5 + (nI p))] [] 27 _
      refine go_blk (pc2 := 54) (L2 := [.ref 0, .int (nI s), .int ((nI p) + 1), .int ((nI s) * 5 + (nI p))]) (st2 := []) (M2 := (A3, G3, PF)) (hs2 := []) (C := True) [(.iinc 2 1, 0, 0)] [] (by decide +kernel) rfl trivial ?_
      refine go_goto (off := -52) 2 (by decide +kernel) (by decide) ?_
      exact go_as (ih (by omega) A3 G3 (by rw [pks_t (by assumption)]; have := hI.trans hF; rw [hI.2.2.1, hI.2.2.2.1, hI.2.2.2.2, ccf_c (hI.row (by decide)) (hI.row (by decide)) (hI.row (by decide)) (hI.row (by decide)) (hI.row (by decide)), hI.1 26 0 (by decide), hI.1 26 1 (by decide), hI.1 26 2 (by decide), hI.row (o := 24) (by decide), hI.row (o := 25) (by decide)] at this; exact this) (.int ((nI s) * 5 + (nI p)))) rfl (by simp only [nI_1]) rfl
    · rw [bi_f hb4]
      show Go l ro0 mX5_climbWorld 27 (A2, G2, PF) 21 [.ref 0, .int (nI s), .int (nI p), .int ((nI s) * 5 + (nI p))] [.int 0] 27 _
      refine go_ifz (cnd := .eq) (off := 30) 51 (by decide +kernel) (by decide) (fun _ => ?_) (fun (h : ¬ (0 : Int32) = 0) => absurd h (by decide))
      refine go_blk (pc2 := 54) (L2 := [.ref 0, .int (nI s), .int ((nI p) + 1), .int ((nI s) * 5 + (nI p))]) (st2 := []) (M2 := (A2, G2, PF)) (hs2 := []) (C := True) [(.iinc 2 1, 0, 0)] [] (by decide +kernel) rfl trivial ?_
      refine go_goto (off := -52) 2 (by decide +kernel) (by decide) ?_
      exact go_as (ih (by omega) A2 G2 (by rw [pks_f (by assumption)]; exact hI) (.int ((nI s) * 5 + (nI p)))) rfl (by simp only [nI_1]) rfl
set_option maxRecDepth 100000 in
set_option maxHeartbeats 4000000 in
theorem s_X5_climbWorld (l : Launch) (A : Nat → Nat → Int32) (G : Nat → Nat → Int64) (cnt : Nat) (hc : A 12 9 = nI cnt) (hc364 : cnt ≤ 364) (s : Nat) (hs : s < 32) : Sem l mX5_climbWorld [.ref 0, .int (nI s)] 27 (A, G, PF) 27 (fun r M2 => r = none ∧ ∃ A2 G2, M2 = (A2, G2, PF) ∧ PkF A G A2 G2 (pks A (A 26 0) (A 26 1) (A 26 2) cnt (G 26 3, G 26 4, A 26 5) s 5)) := by
  refine sem_of_go (by decide) rfl (by decide) (by decide) rfl (Nat.le_of_ble_eq_true rfl) ?_
  show Go l ro0 mX5_climbWorld 27 (A, G, PF) 0 [.ref 0, .int (nI s), .null, .null] [] 27 (fun r M2 => r = none ∧ ∃ A2 G2, M2 = (A2, G2, PF) ∧ PkF A G A2 G2 (pks A (A 26 0) (A 26 1) (A 26 2) cnt (G 26 3, G 26 4, A 26 5) s 5))
  refine go_blk (pc2 := 2) (L2 := [.ref 0, .int (nI s), .int 0, .null]) (st2 := []) (M2 := (A, G, PF)) (hs2 := []) (C := True) [(.iconst 0, 0, 0), (.istore_n 2, 0, 0)] [] (by decide +kernel) rfl trivial ?_
  exact lp_X5_climbWorld l A G cnt hc hc364 s hs 0 (by omega) A G ⟨fun _ _ _ => rfl, fun _ _ _ => rfl, rfl, rfl, rfl⟩ _
def ClF (A : Nat → Nat → Int32) (G : Nat → Nat → Int64) (A2 : Nat → Nat → Int32) (G2 : Nat → Nat → Int64) (a b c : Int32) (t : Tr) : Prop := (∀ o k, o ≠ 26 → A2 o k = A o k) ∧ (∀ o k, o ≠ 26 → G2 o k = G o k) ∧ G2 26 3 = t.1 ∧ G2 26 4 = t.2.1 ∧ A2 26 5 = t.2.2 ∧ A2 26 0 = a ∧ A2 26 1 = b ∧ A2 26 2 = c
theorem ClF.row {A A2 : Nat → Nat → Int32} {G G2 : Nat → Nat → Int64} {a b c : Int32} {t : Tr} (h : ClF A G A2 G2 a b c t) {o : Nat} (ho : o ≠ 26) : A2 o = A o := by
  funext k
  exact h.1 o k ho
theorem pks_c {A A2 : Nat → Nat → Int32} (h : ∀ o, o ≠ 26 → A2 o = A o) (a b c : Int32) (cnt : Nat) (t : Tr) (s p : Nat) : pks A2 a b c cnt t s p = pks A a b c cnt t s p := by
  induction p with
  | zero => rfl
  | succ p ih =>
    have e : ∀ nd, ccf A2 a b c nd cnt = ccf A a b c nd cnt := fun nd => ccf_c (h 17 (by decide)) (h 18 (by decide)) (h 19 (by decide)) (h 20 (by decide)) (h 21 (by decide)) a b c nd cnt
    rcases Classical.em (¬ A 23 (s * 5 + p) = 0) with q | q
    · rw [pks_t q, pks_t (by rw [h 23 (by decide)]; exact q), ih, e, h 24 (by decide), h 25 (by decide)]
    · rw [pks_f q, pks_f (by rw [h 23 (by decide)]; exact q), ih]
theorem Wd_c {A A2 : Nat → Nat → Int32} (h : ∀ o, o ≠ 26 → A2 o = A o) (dm ncl s : Nat) : Wd A2 dm ncl s = Wd A dm ncl s := by
  unfold Wd SatC ClS LitH lit
  rw [h 23 (by decide), h 10 (by decide)]
theorem KI.c {A A2 : Nat → Nat → Int32} {dm ncl : Nat} (hK : KI A dm ncl) (h : ∀ o, o ≠ 26 → A2 o = A o) : KI A2 dm ncl := by
  obtain ⟨h1, h2, h3, h4, h5, h6⟩ := hK
  refine ⟨FOk_c (h 2 (by decide)) (h 7 (by decide)) (h 8 (by decide)) h1, ?_, by rw [h 1 (by decide)]; exact h3, h4, by rw [h 9 (by decide)]; exact h5, h6⟩
  simpa only [LitOk, lit, h 10 (by decide)] using h2
theorem ClF.step {A A2 A3 : Nat → Nat → Int32} {G G2 G3 : Nat → Nat → Int64} {a b c : Int32} {t t2 : Tr} (h : ClF A G A2 G2 a b c t) (h2 : PkF A2 G2 A3 G3 t2) : ClF A G A3 G3 a b c t2 :=
  ⟨fun o k q => (h2.1 o k (by omega)).trans (h.1 o k q), fun o k q => (h2.2.1 o k q).trans (h.2.1 o k q), h2.2.2.1, h2.2.2.2.1, h2.2.2.2.2, (h2.1 26 0 (by decide)).trans h.2.2.2.2.2.1, (h2.1 26 1 (by decide)).trans h.2.2.2.2.2.2.1, (h2.1 26 2 (by decide)).trans h.2.2.2.2.2.2.2⟩
set_option maxRecDepth 100000 in
set_option maxHeartbeats 4000000 in
theorem lp_X5_climb (l : Launch) (A : Nat → Nat → Int32) (G : Nat → Nat → Int64) (dm ncl : Nat) (hK : KI A dm ncl) (cnt : Nat) (hc : A 12 9 = nI cnt) (hc364 : cnt ≤ 364) (a b c : Int32) : ∀ s, s ≤ 32 → ∀ A2 G2, ClF A G A2 G2 a b c (pkw A a b c dm ncl cnt s) → Go l ro0 mX5_climb 27 (A2, G2, PF) 13 [.ref 0, .int a, .int b, .int c, .int (nI s)] [] 27 (fun r M2 => r = none ∧ ∃ A2 G2, M2 = (A2, G2, PF) ∧ ClF A G A2 G2 a b c (pkw A a b c dm ncl cnt 32)) := by
  refine down 32 (fun s hs ih A2 G2 hI => ?_)
  refine go_blk (pc2 := 17) (L2 := [.ref 0, .int a, .int b, .int c, .int (nI s)]) (st2 := [.int 32, .int (nI s)]) (M2 := (A2, G2, PF)) (hs2 := []) (C := True) [(.iload 4, 0, 0), (.bipush 32, 0, 0)] [] (by decide +kernel) rfl trivial ?_
  refine go_cmp (cnd := .ge) (off := 24) 41 (by decide +kernel) (by decide) (fun (c1 : 32 ≤ (nI s)) => ?_) (fun (c1 : ¬ 32 ≤ (nI s)) => ?_)
  · skip
    replace c1 : 32 ≤ s := (nx_le (a := 32) (b := s) rfl rfl (by omega) (by omega)).mp c1
    exact go_retv (by decide +kernel) rfl (⟨rfl, A2, G2, rfl, by obtain rfl : s = 32 := (by omega); exact hI⟩)
  · skip
    replace c1 : ¬ 32 ≤ s := fun zz => c1 ((nx_le (a := 32) (b := s) rfl rfl (by omega) (by omega)).mpr zz)
    refine go_blk (pc2 := 23) (L2 := [.ref 0, .int a, .int b, .int c, .int (nI s)]) (st2 := [.int (nI s), .ref 0]) (M2 := (A2, G2, PF)) (hs2 := []) (C := True) [(.aload_n 0, 0, 0), (.iload 4, 0, 0)] [] (by decide +kernel) rfl trivial ?_
    refine go_call (Y2 := mX5_isWorld) (n2 := 27) (st := []) [.ref 0] [.int (nI s)] ck_5_103 cwX5_isWorld rfl (by decide +kernel) rfl (fun h => absurd h (by decide)) (fun _ => ⟨0, rfl, by decide, rfl⟩) (Nat.le_of_ble_eq_true rfl) (Or.inl rfl) (fun _ _ _ h => h) (s_X5_isWorld l A2 G2 dm ncl (hK.c (fun o ho => hI.row ho)) s (by omega)) (fun v M2 hp2 => ?_)
    obtain ⟨rfl, rfl⟩ := hp2
    rw [Wd_c (A := A) (fun o ho => hI.row ho)]
    rcases Classical.em (Wd A dm ncl s) with hb3 | hb3
    · rw [bi_t hb3]
      show Go l ro0 mX5_climb 27 (A2, G2, PF) 26 [.ref 0, .int a, .int b, .int c, .int (nI s)] [.int 1] 27 _
      refine go_ifz (cnd := .eq) (off := 9) 35 (by decide +kernel) (by decide) (fun (h : (1 : Int32) = 0) => absurd h (by decide)) (fun _ => ?_)
      refine go_blk (pc2 := 32) (L2 := [.ref 0, .int a, .int b, .int c, .int (nI s)]) (st2 := [.int (nI s), .ref 0]) (M2 := (A2, G2, PF)) (hs2 := []) (C := True) [(.aload_n 0, 0, 0), (.iload 4, 0, 0)] [] (by decide +kernel) rfl trivial ?_
      refine go_call (Y2 := mX5_climbWorld) (n2 := 27) (st := []) [.ref 0] [.int (nI s)] ck_5_155 cwX5_climbWorld rfl (by decide +kernel) rfl (fun h => absurd h (by decide)) (fun _ => ⟨0, rfl, by decide, rfl⟩) (Nat.le_of_ble_eq_true rfl) (Or.inl rfl) (fun _ _ _ h => h) (s_X5_climbWorld l A2 G2 cnt (by rw [hI.row (by decide)]; exact hc) hc364 s (by omega)) (fun v M2 hp4 => ?_)
      obtain ⟨rfl, A3, G3, rfl, hF⟩ := hp4
      show Go l ro0 mX5_climb 27 (A3, G3, PF) 35 [.ref 0, .int a, .int b, .int c, .int (nI s)] [] 27 _
      refine go_blk (pc2 := 38) (L2 := [.ref 0, .int a, .int b, .int c, .int ((nI s) + 1)]) (st2 := []) (M2 := (A3, G3, PF)) (hs2 := []) (C := True) [(.iinc 4 1, 0, 0)] [] (by decide +kernel) rfl trivial ?_
      refine go_goto (off := -25) 13 (by decide +kernel) (by decide) ?_
      exact go_as (ih (by omega) A3 G3 (by rw [pkw_t (by assumption)]; have := hI.step hF; rw [hI.2.2.1, hI.2.2.2.1, hI.2.2.2.2.1, hI.2.2.2.2.2.1, hI.2.2.2.2.2.2.1, hI.2.2.2.2.2.2.2, pks_c (A := A) (fun o ho => hI.row ho)] at this; exact this)) rfl (by simp only [nI_1]) rfl
    · rw [bi_f hb3]
      show Go l ro0 mX5_climb 27 (A2, G2, PF) 26 [.ref 0, .int a, .int b, .int c, .int (nI s)] [.int 0] 27 _
      refine go_ifz (cnd := .eq) (off := 9) 35 (by decide +kernel) (by decide) (fun _ => ?_) (fun (h : ¬ (0 : Int32) = 0) => absurd h (by decide))
      refine go_blk (pc2 := 38) (L2 := [.ref 0, .int a, .int b, .int c, .int ((nI s) + 1)]) (st2 := []) (M2 := (A2, G2, PF)) (hs2 := []) (C := True) [(.iinc 4 1, 0, 0)] [] (by decide +kernel) rfl trivial ?_
      refine go_goto (off := -25) 13 (by decide +kernel) (by decide) ?_
      exact go_as (ih (by omega) A2 G2 (by rw [pkw_f (by assumption)]; exact hI)) rfl (by simp only [nI_1]) rfl
set_option maxRecDepth 100000 in
set_option maxHeartbeats 4000000 in
theorem s_X5_climb (l : Launch) (A : Nat → Nat → Int32) (G : Nat → Nat → Int64) (dm ncl : Nat) (hK : KI A dm ncl) (cnt : Nat) (hc : A 12 9 = nI cnt) (hc364 : cnt ≤ 364) (a b c : Int32) : Sem l mX5_climb [.ref 0, .int a, .int b, .int c] 27 (A, G, PF) 27 (fun r M2 => r = none ∧ ∃ A2 G2, M2 = (A2, G2, PF) ∧ ClF A G A2 G2 a b c (pkw A a b c dm ncl cnt 32)) := by
  refine sem_of_go (by decide) rfl (by decide) (by decide) rfl (Nat.le_of_ble_eq_true rfl) ?_
  show Go l ro0 mX5_climb 27 (A, G, PF) 0 [.ref 0, .int a, .int b, .int c, .null] [] 27 (fun r M2 => r = none ∧ ∃ A2 G2, M2 = (A2, G2, PF) ∧ ClF A G A2 G2 a b c (pkw A a b c dm ncl cnt 32))
  refine go_blk (pc2 := 7) (L2 := [.ref 0, .int a, .int b, .int c, .null]) (st2 := [.int c, .int b, .int a, .ref 26]) (M2 := (A, G, PF)) (hs2 := []) (C := True) [(.aload_n 0, 0, 0), (.getfield 40, 5, 4), (.iload_n 1, 0, 0), (.iload_n 2, 0, 0), (.iload_n 3, 0, 0)] [] (by decide +kernel) rfl trivial ?_
  refine go_call (Y2 := mX4_start) (n2 := 27) (st := []) [.ref 26] [.int a, .int b, .int c] ck_5_152 cwX4_start rfl (by decide +kernel) rfl (fun h => absurd h (by decide)) (fun _ => ⟨26, rfl, by decide, rfl⟩) (Nat.le_of_ble_eq_true rfl) (Or.inl rfl) (fun _ _ _ h => h) (s_X4_start l A G a b c) (fun v M2 hp1 => ?_)
  obtain ⟨rfl, rfl⟩ := hp1
  show Go l ro0 mX5_climb 27 ((u2 (u2 (u2 (u2 A 26 0 a) 26 1 b) 26 2 c) 26 5 0), (u2 (u2 G 26 3 0) 26 4 0), PF) 10 [.ref 0, .int a, .int b, .int c, .null] [] 27 _
  refine go_blk (pc2 := 13) (L2 := [.ref 0, .int a, .int b, .int c, .int 0]) (st2 := []) (M2 := ((u2 (u2 (u2 (u2 A 26 0 a) 26 1 b) 26 2 c) 26 5 0), (u2 (u2 G 26 3 0) 26 4 0), PF)) (hs2 := []) (C := True) [(.iconst 0, 0, 0), (.istore 4, 0, 0)] [] (by decide +kernel) rfl trivial ?_
  exact lp_X5_climb l A G dm ncl hK cnt hc hc364 a b c 0 (by omega) _ _ ⟨fun o k ho => by rw [u2_o ho, u2_o ho, u2_o ho, u2_o ho], fun o k ho => by rw [u2_o ho, u2_o ho], by simp [u2, pkw], by simp [u2, pkw], by simp [u2, pkw], by simp [u2], by simp [u2], by simp [u2]⟩
def NumOk (t : Tr) (h0 w0 : Nat) : Prop := (if 0 < t.1 then t.1 else -t.1) = lN h0 ∧ h0 < 2 ^ 40 ∧ w0 < 8192 ∧ t.2.1 = lN w0 ∧ (t.2.2 = 0 ∨ t.2.2 = 1)
def rdo (t : Tr) (h0 w0 : Nat) : Int64 := if 0 < lN (Nat.gcd h0 w0) then t.1 / lN (Nat.gcd h0 w0) else 0
def rdu (t : Tr) (h0 w0 : Nat) : Int64 := if 0 < lN (Nat.gcd h0 w0) then t.2.1 / lN (Nat.gcd h0 w0) else 0
def mov (t : Tr) : Int32 := if 0 < t.2.1 then (if t.2.2 = 0 then 1 else 2) else 0
def MoF (A : Nat → Nat → Int32) (G : Nat → Nat → Int64) (A2 A3 : Nat → Nat → Int32) (G3 : Nat → Nat → Int64) (cnt : Nat) : Prop := CacheI A2 cnt ∧ RfF A A2 ∧ Z5 A A2 ∧ (∀ o k, o ≠ 26 → A3 o k = A2 o k) ∧ ∀ o k, o ≠ 26 → ¬ (o = 0 ∧ (k = 6 ∨ k = 7)) → G3 o k = G o k
set_option maxRecDepth 100000 in
set_option maxHeartbeats 4000000 in
theorem s_X5_most (l : Launch) (A : Nat → Nat → Int32) (G : Nat → Nat → Int64) (dm ncl : Nat) (hK : KI A dm ncl) (hst : A 0 5 = 0 → ∃ cnt, CacheI A cnt) (a b c : Int32) (hnum : (f9 a ∧ f9 b ∧ f9 c) → ∀ A2 cnt, RfF A A2 → CacheI A2 cnt → ∃ h0 w0, NumOk (pkw A2 a b c dm ncl cnt 32) h0 w0) : Sem l mX5_most [.ref 0, .int a, .int b, .int c] 27 (A, G, PF) 27 (fun r M2 => (¬ (f9 a ∧ f9 b ∧ f9 c) ∧ r = some (.int (-1)) ∧ M2 = (A, G, PF)) ∨ ((f9 a ∧ f9 b ∧ f9 c) ∧ ∃ A2 A3 G3 cnt h0 w0, M2 = (A3, G3, PF) ∧ MoF A G A2 A3 G3 cnt ∧ NumOk (pkw A2 a b c dm ncl cnt 32) h0 w0 ∧ G3 0 6 = rdo (pkw A2 a b c dm ncl cnt 32) h0 w0 ∧ G3 0 7 = rdu (pkw A2 a b c dm ncl cnt 32) h0 w0 ∧ r = some (.int (mov (pkw A2 a b c dm ncl cnt 32))))) := by
  refine sem_of_go (by decide) rfl (by decide) (by decide) rfl (Nat.le_of_ble_eq_true rfl) ?_
  show Go l ro0 mX5_most 27 (A, G, PF) 0 [.ref 0, .int a, .int b, .int c] [] 27 (fun r M2 => (¬ (f9 a ∧ f9 b ∧ f9 c) ∧ r = some (.int (-1)) ∧ M2 = (A, G, PF)) ∨ ((f9 a ∧ f9 b ∧ f9 c) ∧ ∃ A2 A3 G3 cnt h0 w0, M2 = (A3, G3, PF) ∧ MoF A G A2 A3 G3 cnt ∧ NumOk (pkw A2 a b c dm ncl cnt 32) h0 w0 ∧ G3 0 6 = rdo (pkw A2 a b c dm ncl cnt 32) h0 w0 ∧ G3 0 7 = rdu (pkw A2 a b c dm ncl cnt 32) h0 w0 ∧ r = some (.int (mov (pkw A2 a b c dm ncl cnt 32)))))
  refine go_blk (pc2 := 3) (L2 := [.ref 0, .int a, .int b, .int c]) (st2 := [.int c, .int b, .int a]) (M2 := (A, G, PF)) (hs2 := []) (C := True) [(.iload_n 1, 0, 0), (.iload_n 2, 0, 0), (.iload_n 3, 0, 0)] [] (by decide +kernel) rfl trivial ?_
  refine go_call (Y2 := mX5_areFactors) (n2 := 27) (st := []) [] [.int a, .int b, .int c] ck_5_59 cwX5_areFactors rfl (by decide +kernel) rfl (fun _ => rfl) (fun h => absurd rfl h) (Nat.le_of_ble_eq_true rfl) (Or.inl rfl) (fun _ _ _ h => h) (s_X5_areFactors l A G a b c) (fun v M2 hp1 => ?_)
  obtain ⟨rfl, rfl⟩ := hp1
  rcases Classical.em (f9 a ∧ f9 b ∧ f9 c) with hb2 | hb2
  · rw [bi_t hb2]
    show Go l ro0 mX5_most 27 (A, G, PF) 6 [.ref 0, .int a, .int b, .int c] [.int 1] 27 _
    refine go_ifz (cnd := .ne) (off := 5) 11 (by decide +kernel) (by decide) (fun _ => ?_) (fun (h : (1 : Int32) = 0) => absurd h (by decide))
    refine go_blk (pc2 := 12) (L2 := [.ref 0, .int a, .int b, .int c]) (st2 := [.ref 0]) (M2 := (A, G, PF)) (hs2 := []) (C := True) [(.aload_n 0, 0, 0)] [] (by decide +kernel) rfl trivial ?_
    refine go_call (Y2 := mX5_refresh) (n2 := 27) (st := []) [.ref 0] [] ck_5_100 cwX5_refresh rfl (by decide +kernel) rfl (fun h => absurd h (by decide)) (fun _ => ⟨0, rfl, by decide, rfl⟩) (Nat.le_of_ble_eq_true rfl) (Or.inl rfl) (fun _ _ _ h => h) (s_X5_refresh l A G dm ncl hK hst) (fun v M2 hp3 => ?_)
    obtain ⟨rfl, A2, cnt, rfl, hCa, hRf, hs0⟩ := hp3
    have hK2 := hK.rf hRf
    show Go l ro0 mX5_most 27 (A2, G, PF) 15 [.ref 0, .int a, .int b, .int c] [] 27 _
    refine go_blk (pc2 := 19) (L2 := [.ref 0, .int a, .int b, .int c]) (st2 := [.int c, .int b, .int a, .ref 0]) (M2 := (A2, G, PF)) (hs2 := []) (C := True) [(.aload_n 0, 0, 0), (.iload_n 1, 0, 0), (.iload_n 2, 0, 0), (.iload_n 3, 0, 0)] [] (by decide +kernel) rfl trivial ?_
    refine go_call (Y2 := mX5_climb) (n2 := 27) (st := []) [.ref 0] [.int a, .int b, .int c] ck_5_113 cwX5_climb rfl (by decide +kernel) rfl (fun h => absurd h (by decide)) (fun _ => ⟨0, rfl, by decide, rfl⟩) (Nat.le_of_ble_eq_true rfl) (Or.inl rfl) (fun _ _ _ h => h) (s_X5_climb l A2 G dm ncl hK2 cnt hCa.2.1 hCa.1 a b c) (fun v M2 hp4 => ?_)
    obtain ⟨rfl, A3, G2, rfl, hF⟩ := hp4
    obtain ⟨h0, w0, hN⟩ := hnum (by assumption) A2 cnt hRf hCa
    obtain ⟨tt, ett⟩ : ∃ z, z = pkw A2 a b c dm ncl cnt 32 := ⟨_, rfl⟩
    rw [← ett] at hF hN
    show Go l ro0 mX5_most 27 (A3, G2, PF) 22 [.ref 0, .int a, .int b, .int c] [] 27 _
    refine go_blk (pc2 := 27) (L2 := [.ref 0, .int a, .int b, .int c]) (st2 := [.ref 26, .ref 0]) (M2 := (A3, G2, PF)) (hs2 := []) (C := True) [(.aload_n 0, 0, 0), (.aload_n 0, 0, 0), (.getfield 40, 5, 4)] [] (by decide +kernel) rfl trivial ?_
    refine go_call (Y2 := mX4_reducedOver) (n2 := 27) (st := [.ref 0]) [.ref 26] [] ck_5_116 cwX4_reducedOver rfl (by decide +kernel) rfl (fun h => absurd h (by decide)) (fun _ => ⟨26, rfl, by decide, rfl⟩) (Nat.le_of_ble_eq_true rfl) (Or.inl rfl) (fun _ _ _ h => h) (s_X4_reducedOver l A3 G2 h0 w0 (by rw [hF.2.2.1]; exact hN.1) hN.2.1 hN.2.2.1 (by rw [hF.2.2.2.1]; exact hN.2.2.2.1)) (fun v M2 hp5 => ?_)
    obtain ⟨rfl, rfl⟩ := hp5
    rw [show G2 26 3 = tt.1 from hF.2.2.1]
    show Go l ro0 mX5_most 27 (A3, G2, PF) 30 [.ref 0, .int a, .int b, .int c] [.long (rdo tt h0 w0), .ref 0] 27 _
    refine go_blk (pc2 := 38) (L2 := [.ref 0, .int a, .int b, .int c]) (st2 := [.ref 26, .ref 0]) (M2 := (A3, (u2 G2 0 6 (rdo tt h0 w0)), PF)) (hs2 := []) (C := True) [(.putfield 48, 5, 6), (.aload_n 0, 0, 0), (.aload_n 0, 0, 0), (.getfield 40, 5, 4)] [] (by decide +kernel) rfl trivial ?_
    refine go_call (Y2 := mX4_reducedUnder) (n2 := 27) (st := [.ref 0]) [.ref 26] [] ck_5_120 cwX4_reducedUnder rfl (by decide +kernel) rfl (fun h => absurd h (by decide)) (fun _ => ⟨26, rfl, by decide, rfl⟩) (Nat.le_of_ble_eq_true rfl) (Or.inl rfl) (fun _ _ _ h => h) (s_X4_reducedUnder l A3 (u2 G2 0 6 (rdo tt h0 w0)) h0 w0 (by rw [u2_o (by decide), hF.2.2.1]; exact hN.1) hN.2.1 hN.2.2.1 (by rw [u2_o (by decide), hF.2.2.2.1]; exact hN.2.2.2.1)) (fun v M2 hp6 => ?_)
    obtain ⟨rfl, rfl⟩ := hp6
    rw [show u2 G2 0 6 (rdo tt h0 w0) 26 4 = tt.2.1 from hF.2.2.2.1]
    show Go l ro0 mX5_most 27 (A3, (u2 G2 0 6 (rdo tt h0 w0)), PF) 41 [.ref 0, .int a, .int b, .int c] [.long (rdu tt h0 w0), .ref 0] 27 _
    refine go_blk (pc2 := 48) (L2 := [.ref 0, .int a, .int b, .int c]) (st2 := [.ref 26]) (M2 := (A3, (u2 (u2 G2 0 6 (rdo tt h0 w0)) 0 7 (rdu tt h0 w0)), PF)) (hs2 := []) (C := True) [(.putfield 52, 5, 7), (.aload_n 0, 0, 0), (.getfield 40, 5, 4)] [] (by decide +kernel) rfl trivial ?_
    refine go_call (Y2 := mX4_isFound) (n2 := 27) (st := []) [.ref 26] [] ck_5_123 cwX4_isFound rfl (by decide +kernel) rfl (fun h => absurd h (by decide)) (fun _ => ⟨26, rfl, by decide, rfl⟩) (Nat.le_of_ble_eq_true rfl) (Or.inl rfl) (fun _ _ _ h => h) (s_X4_isFound l A3 (u2 (u2 G2 0 6 (rdo tt h0 w0)) 0 7 (rdu tt h0 w0))) (fun v M2 hp7 => ?_)
    obtain ⟨rfl, rfl⟩ := hp7
    rw [show (u2 (u2 G2 0 6 (rdo tt h0 w0)) 0 7 (rdu tt h0 w0)) 26 4 = tt.2.1 from hF.2.2.2.1]
    rcases Classical.em (0 < tt.2.1) with hb8 | hb8
    · rw [bi_t hb8]
      show Go l ro0 mX5_most 27 (A3, (u2 (u2 G2 0 6 (rdo tt h0 w0)) 0 7 (rdu tt h0 w0)), PF) 51 [.ref 0, .int a, .int b, .int c] [.int 1] 27 _
      refine go_ifz (cnd := .ne) (off := 5) 56 (by decide +kernel) (by decide) (fun _ => ?_) (fun (h : (1 : Int32) = 0) => absurd h (by decide))
      refine go_blk (pc2 := 60) (L2 := [.ref 0, .int a, .int b, .int c]) (st2 := [.ref 26]) (M2 := (A3, (u2 (u2 G2 0 6 (rdo tt h0 w0)) 0 7 (rdu tt h0 w0)), PF)) (hs2 := []) (C := True) [(.aload_n 0, 0, 0), (.getfield 40, 5, 4)] [] (by decide +kernel) rfl trivial ?_
      refine go_call (Y2 := mX4_isReached) (n2 := 27) (st := []) [.ref 26] [] ck_5_126 cwX4_isReached rfl (by decide +kernel) rfl (fun h => absurd h (by decide)) (fun _ => ⟨26, rfl, by decide, rfl⟩) (Nat.le_of_ble_eq_true rfl) (Or.inl rfl) (fun _ _ _ h => h) (s_X4_isReached l A3 (u2 (u2 G2 0 6 (rdo tt h0 w0)) 0 7 (rdu tt h0 w0)) (by rw [hF.2.2.2.2.1]; exact hN.2.2.2.2)) (fun v M2 hp9 => ?_)
      obtain ⟨rfl, rfl⟩ := hp9
      rw [show A3 26 5 = tt.2.2 from hF.2.2.2.2.1]
      show Go l ro0 mX5_most 27 (A3, (u2 (u2 G2 0 6 (rdo tt h0 w0)) 0 7 (rdu tt h0 w0)), PF) 63 [.ref 0, .int a, .int b, .int c] [.int tt.2.2] 27 _
      refine go_ifz (cnd := .eq) (off := 7) 70 (by decide +kernel) (by decide) (fun (c10 : tt.2.2 = 0) => ?_) (fun (c10 : ¬ tt.2.2 = 0) => ?_)
      · skip
        refine go_blk (pc2 := 71) (L2 := [.ref 0, .int a, .int b, .int c]) (st2 := [.int 1]) (M2 := (A3, (u2 (u2 G2 0 6 (rdo tt h0 w0)) 0 7 (rdu tt h0 w0)), PF)) (hs2 := []) (C := True) [(.iconst 1, 0, 0)] [] (by decide +kernel) rfl trivial ?_
        exact go_reti (by decide +kernel) rfl (Or.inr ⟨by assumption, A2, A3, _, cnt, h0, w0, rfl, ⟨hCa, hRf, hs0, hF.1, fun o k h1 h2 => by rw [u2_ne (by omega), u2_ne (by omega)]; exact hF.2.1 o k h1⟩, by rw [← ett]; exact hN, by rw [← ett]; simp [u2], by rw [← ett]; simp [u2], by rw [← ett]; unfold mov; first | rw [if_neg (by assumption)] | rw [if_pos (by assumption), if_pos (by assumption)] | rw [if_pos (by assumption), if_neg (by assumption)]⟩)
      · skip
        refine go_blk (pc2 := 67) (L2 := [.ref 0, .int a, .int b, .int c]) (st2 := [.int 2]) (M2 := (A3, (u2 (u2 G2 0 6 (rdo tt h0 w0)) 0 7 (rdu tt h0 w0)), PF)) (hs2 := []) (C := True) [(.iconst 2, 0, 0)] [] (by decide +kernel) rfl trivial ?_
        refine go_goto (off := 4) 71 (by decide +kernel) (by decide) ?_
        exact go_reti (by decide +kernel) rfl (Or.inr ⟨by assumption, A2, A3, _, cnt, h0, w0, rfl, ⟨hCa, hRf, hs0, hF.1, fun o k h1 h2 => by rw [u2_ne (by omega), u2_ne (by omega)]; exact hF.2.1 o k h1⟩, by rw [← ett]; exact hN, by rw [← ett]; simp [u2], by rw [← ett]; simp [u2], by rw [← ett]; unfold mov; first | rw [if_neg (by assumption)] | rw [if_pos (by assumption), if_pos (by assumption)] | rw [if_pos (by assumption), if_neg (by assumption)]⟩)
    · rw [bi_f hb8]
      show Go l ro0 mX5_most 27 (A3, (u2 (u2 G2 0 6 (rdo tt h0 w0)) 0 7 (rdu tt h0 w0)), PF) 51 [.ref 0, .int a, .int b, .int c] [.int 0] 27 _
      refine go_ifz (cnd := .ne) (off := 5) 56 (by decide +kernel) (by decide) (fun (h : ¬ (0 : Int32) = 0) => absurd h (by decide)) (fun _ => ?_)
      refine go_blk (pc2 := 55) (L2 := [.ref 0, .int a, .int b, .int c]) (st2 := [.int 0]) (M2 := (A3, (u2 (u2 G2 0 6 (rdo tt h0 w0)) 0 7 (rdu tt h0 w0)), PF)) (hs2 := []) (C := True) [(.iconst 0, 0, 0)] [] (by decide +kernel) rfl trivial ?_
      exact go_reti (by decide +kernel) rfl (Or.inr ⟨by assumption, A2, A3, _, cnt, h0, w0, rfl, ⟨hCa, hRf, hs0, hF.1, fun o k h1 h2 => by rw [u2_ne (by omega), u2_ne (by omega)]; exact hF.2.1 o k h1⟩, by rw [← ett]; exact hN, by rw [← ett]; simp [u2], by rw [← ett]; simp [u2], by rw [← ett]; unfold mov; first | rw [if_neg (by assumption)] | rw [if_pos (by assumption), if_pos (by assumption)] | rw [if_pos (by assumption), if_neg (by assumption)]⟩)
  · rw [bi_f hb2]
    show Go l ro0 mX5_most 27 (A, G, PF) 6 [.ref 0, .int a, .int b, .int c] [.int 0] 27 _
    refine go_ifz (cnd := .ne) (off := 5) 11 (by decide +kernel) (by decide) (fun (h : ¬ (0 : Int32) = 0) => absurd h (by decide)) (fun _ => ?_)
    refine go_blk (pc2 := 10) (L2 := [.ref 0, .int a, .int b, .int c]) (st2 := [.int (-1)]) (M2 := (A, G, PF)) (hs2 := []) (C := True) [(.iconst (-1), 0, 0)] [] (by decide +kernel) rfl trivial ?_
    exact go_reti (by decide +kernel) rfl (Or.inl ⟨by assumption, rfl, rfl⟩)
set_option maxRecDepth 100000 in
set_option maxHeartbeats 4000000 in
theorem s_X5_bounded (l : Launch) (A : Nat → Nat → Int32) (G : Nat → Nat → Int64) (dm ncl : Nat) (hK : KI A dm ncl) (hst : A 0 5 = 0 → ∃ cnt, CacheI A cnt) (a b c d : Int32) : Sem l mX5_bounded [.ref 0, .int a, .int b, .int c, .int d] 27 (A, G, PF) 27 (fun r M2 => (¬ ((f9 a ∧ f9 b ∧ f9 c) ∧ f99 d) ∧ r = some (.int 0) ∧ M2 = (A, G, PF)) ∨ (((f9 a ∧ f9 b ∧ f9 c) ∧ f99 d) ∧ ∃ A2 A3 G3 cnt, M2 = (A3, G3, PF) ∧ MoF A G A2 A3 G3 cnt ∧ G3 0 6 = G 0 6 ∧ G3 0 7 = G 0 7 ∧ r = some (.int (bi ((pkw A2 a b c dm ncl cnt 32).1 ≤ d.toInt64 * (pkw A2 a b c dm ncl cnt 32).2.1))))) := by
  refine sem_of_go (by decide) rfl (by decide) (by decide) rfl (Nat.le_of_ble_eq_true rfl) ?_
  show Go l ro0 mX5_bounded 27 (A, G, PF) 0 [.ref 0, .int a, .int b, .int c, .int d] [] 27 (fun r M2 => (¬ ((f9 a ∧ f9 b ∧ f9 c) ∧ f99 d) ∧ r = some (.int 0) ∧ M2 = (A, G, PF)) ∨ (((f9 a ∧ f9 b ∧ f9 c) ∧ f99 d) ∧ ∃ A2 A3 G3 cnt, M2 = (A3, G3, PF) ∧ MoF A G A2 A3 G3 cnt ∧ G3 0 6 = G 0 6 ∧ G3 0 7 = G 0 7 ∧ r = some (.int (bi ((pkw A2 a b c dm ncl cnt 32).1 ≤ d.toInt64 * (pkw A2 a b c dm ncl cnt 32).2.1)))))
  refine go_blk (pc2 := 3) (L2 := [.ref 0, .int a, .int b, .int c, .int d]) (st2 := [.int c, .int b, .int a]) (M2 := (A, G, PF)) (hs2 := []) (C := True) [(.iload_n 1, 0, 0), (.iload_n 2, 0, 0), (.iload_n 3, 0, 0)] [] (by decide +kernel) rfl trivial ?_
  refine go_call (Y2 := mX5_areFactors) (n2 := 27) (st := []) [] [.int a, .int b, .int c] ck_5_59 cwX5_areFactors rfl (by decide +kernel) rfl (fun _ => rfl) (fun h => absurd rfl h) (Nat.le_of_ble_eq_true rfl) (Or.inl rfl) (fun _ _ _ h => h) (s_X5_areFactors l A G a b c) (fun v M2 hp1 => ?_)
  obtain ⟨rfl, rfl⟩ := hp1
  rcases Classical.em (f9 a ∧ f9 b ∧ f9 c) with hb2 | hb2
  · rw [bi_t hb2]
    show Go l ro0 mX5_bounded 27 (A, G, PF) 6 [.ref 0, .int a, .int b, .int c, .int d] [.int 1] 27 _
    refine go_ifz (cnd := .eq) (off := 11) 17 (by decide +kernel) (by decide) (fun (h : (1 : Int32) = 0) => absurd h (by decide)) (fun _ => ?_)
    refine go_blk (pc2 := 11) (L2 := [.ref 0, .int a, .int b, .int c, .int d]) (st2 := [.int d]) (M2 := (A, G, PF)) (hs2 := []) (C := True) [(.iload 4, 0, 0)] [] (by decide +kernel) rfl trivial ?_
    refine go_call (Y2 := mX5_isLimit) (n2 := 27) (st := []) [] [.int d] ck_5_63 cwX5_isLimit rfl (by decide +kernel) rfl (fun _ => rfl) (fun h => absurd rfl h) (Nat.le_of_ble_eq_true rfl) (Or.inl rfl) (fun _ _ _ h => h) (s_X5_isLimit l A G d) (fun v M2 hp3 => ?_)
    obtain ⟨rfl, rfl⟩ := hp3
    rcases Classical.em (f99 d) with hb4 | hb4
    · rw [bi_t hb4]
      show Go l ro0 mX5_bounded 27 (A, G, PF) 14 [.ref 0, .int a, .int b, .int c, .int d] [.int 1] 27 _
      refine go_ifz (cnd := .ne) (off := 5) 19 (by decide +kernel) (by decide) (fun _ => ?_) (fun (h : (1 : Int32) = 0) => absurd h (by decide))
      refine go_blk (pc2 := 20) (L2 := [.ref 0, .int a, .int b, .int c, .int d]) (st2 := [.ref 0]) (M2 := (A, G, PF)) (hs2 := []) (C := True) [(.aload_n 0, 0, 0)] [] (by decide +kernel) rfl trivial ?_
      refine go_call (Y2 := mX5_refresh) (n2 := 27) (st := []) [.ref 0] [] ck_5_100 cwX5_refresh rfl (by decide +kernel) rfl (fun h => absurd h (by decide)) (fun _ => ⟨0, rfl, by decide, rfl⟩) (Nat.le_of_ble_eq_true rfl) (Or.inl rfl) (fun _ _ _ h => h) (s_X5_refresh l A G dm ncl hK hst) (fun v M2 hp5 => ?_)
      obtain ⟨rfl, A2, cnt, rfl, hCa, hRf, hs0⟩ := hp5
      have hK2 := hK.rf hRf
      show Go l ro0 mX5_bounded 27 (A2, G, PF) 23 [.ref 0, .int a, .int b, .int c, .int d] [] 27 _
      refine go_blk (pc2 := 27) (L2 := [.ref 0, .int a, .int b, .int c, .int d]) (st2 := [.int c, .int b, .int a, .ref 0]) (M2 := (A2, G, PF)) (hs2 := []) (C := True) [(.aload_n 0, 0, 0), (.iload_n 1, 0, 0), (.iload_n 2, 0, 0), (.iload_n 3, 0, 0)] [] (by decide +kernel) rfl trivial ?_
      refine go_call (Y2 := mX5_climb) (n2 := 27) (st := []) [.ref 0] [.int a, .int b, .int c] ck_5_113 cwX5_climb rfl (by decide +kernel) rfl (fun h => absurd h (by decide)) (fun _ => ⟨0, rfl, by decide, rfl⟩) (Nat.le_of_ble_eq_true rfl) (Or.inl rfl) (fun _ _ _ h => h) (s_X5_climb l A2 G dm ncl hK2 cnt hCa.2.1 hCa.1 a b c) (fun v M2 hp6 => ?_)
      obtain ⟨rfl, A3, G2, rfl, hF⟩ := hp6
      show Go l ro0 mX5_bounded 27 (A3, G2, PF) 30 [.ref 0, .int a, .int b, .int c, .int d] [] 27 _
      refine go_blk (pc2 := 36) (L2 := [.ref 0, .int a, .int b, .int c, .int d]) (st2 := [.int d, .ref 26]) (M2 := (A3, G2, PF)) (hs2 := []) (C := True) [(.aload_n 0, 0, 0), (.getfield 40, 5, 4), (.iload 4, 0, 0)] [] (by decide +kernel) rfl trivial ?_
      refine go_call (Y2 := mX4_isAtMost) (n2 := 27) (st := []) [.ref 26] [.int d] ck_5_129 cwX4_isAtMost rfl (by decide +kernel) rfl (fun h => absurd h (by decide)) (fun _ => ⟨26, rfl, by decide, rfl⟩) (Nat.le_of_ble_eq_true rfl) (Or.inl rfl) (fun _ _ _ h => h) (s_X4_isAtMost l A3 G2 d) (fun v M2 hp7 => ?_)
      obtain ⟨rfl, rfl⟩ := hp7
      rw [hF.2.2.1, hF.2.2.2.1]
      show Go l ro0 mX5_bounded 27 (A3, G2, PF) 39 [.ref 0, .int a, .int b, .int c, .int d] [.int (bi ((pkw A2 a b c dm ncl cnt 32).1 ≤ d.toInt64 * (pkw A2 a b c dm ncl cnt 32).2.1))] 27 _
      exact go_retz (by decide +kernel) rfl (bi_01 _) (Or.inr ⟨⟨by assumption, by assumption⟩, A2, A3, G2, cnt, rfl, ⟨hCa, hRf, hs0, hF.1, fun o k h1 h2 => hF.2.1 o k h1⟩, hF.2.1 0 6 (by decide), hF.2.1 0 7 (by decide), rfl⟩)
    · rw [bi_f hb4]
      show Go l ro0 mX5_bounded 27 (A, G, PF) 14 [.ref 0, .int a, .int b, .int c, .int d] [.int 0] 27 _
      refine go_ifz (cnd := .ne) (off := 5) 19 (by decide +kernel) (by decide) (fun (h : ¬ (0 : Int32) = 0) => absurd h (by decide)) (fun _ => ?_)
      refine go_blk (pc2 := 18) (L2 := [.ref 0, .int a, .int b, .int c, .int d]) (st2 := [.int 0]) (M2 := (A, G, PF)) (hs2 := []) (C := True) [(.iconst 0, 0, 0)] [] (by decide +kernel) rfl trivial ?_
      exact go_retz (by decide +kernel) rfl (Or.inl rfl) (Or.inl ⟨by rintro ⟨z1, z2⟩; contradiction, rfl, rfl⟩)
  · rw [bi_f hb2]
    show Go l ro0 mX5_bounded 27 (A, G, PF) 6 [.ref 0, .int a, .int b, .int c, .int d] [.int 0] 27 _
    refine go_ifz (cnd := .eq) (off := 11) 17 (by decide +kernel) (by decide) (fun _ => ?_) (fun (h : ¬ (0 : Int32) = 0) => absurd h (by decide))
    refine go_blk (pc2 := 18) (L2 := [.ref 0, .int a, .int b, .int c, .int d]) (st2 := [.int 0]) (M2 := (A, G, PF)) (hs2 := []) (C := True) [(.iconst 0, 0, 0)] [] (by decide +kernel) rfl trivial ?_
    exact go_retz (by decide +kernel) rfl (Or.inl rfl) (Or.inl ⟨by rintro ⟨z1, z2⟩; contradiction, rfl, rfl⟩)
end
section
def ZA : Nat → Nat → Int32 := fun _ _ => 0
def ZG : Nat → Nat → Int64 := fun _ _ => 0
def ZP : Nat → Nat → Value := fun _ _ => .null
theorem zer_id {n : Nat} {M : Mem} (h1 : ∀ k, M.1 n k = 0) (h2 : ∀ k, M.2.1 n k = 0) (h3 : ∀ k, M.2.2 n k = .null) : zer n M = M := by
  have e1 : zrow M.1 n 0 = M.1 := by
    funext o k
    unfold zrow
    split
    · rename_i h; rw [h, h1]
    · rfl
  have e2 : zrow M.2.1 n 0 = M.2.1 := by
    funext o k
    unfold zrow
    split
    · rename_i h; rw [h, h2]
    · rfl
  have e3 : zrow M.2.2 n .null = M.2.2 := by
    funext o k
    unfold zrow
    split
    · rename_i h; rw [h, h3]
    · rfl
  unfold zer
  rw [e1, e2, e3]
def MA_0 : Nat → Nat → Int32 := (u2 ZA 1 7 0)
def MP_0 : Nat → Nat → Value := (u2 (u2 (u2 (u2 (u2 (u2 (u2 ZP 1 0 (.ref 2)) 1 1 (.ref 3)) 1 2 (.ref 4)) 1 3 (.ref 5)) 1 4 (.ref 6)) 1 5 (.ref 7)) 1 6 (.ref 8))
set_option maxRecDepth 100000 in
set_option maxHeartbeats 4000000 in
theorem s_X0_init (l : Launch) : Sem l mX0_init [.ref 1] 2 (ZA, ZG, ZP) 9 (pm (MA_0, ZG, MP_0)) := by
  refine sem_of_go (by decide) rfl (by decide) (by decide) rfl (Nat.le_of_ble_eq_true rfl) ?_
  show Go l ro0 mX0_init 2 (ZA, ZG, ZP) 0 [.ref 1] [] 9 (pm (MA_0, ZG, MP_0))
  refine go_blk (pc2 := 1) (L2 := [.ref 1]) (st2 := [.ref 1]) (M2 := (ZA, ZG, ZP)) (hs2 := []) (C := True) [(.aload_n 0, 0, 0)] [] (by decide +kernel) rfl trivial ?_
  refine go_obj (idx := 3) (p1 := 37) (by decide +kernel) (by decide +kernel) ⟨by decide, Nat.le_of_ble_eq_true rfl⟩ ?_
  refine go_blk (pc2 := 6) (L2 := [.ref 1]) (st2 := [.int 5, .ref 1]) (M2 := (ZA, ZG, ZP)) (hs2 := []) (C := True) [(.aload_n 0, 0, 0), (.iconst 5, 0, 0)] [] (by decide +kernel) rfl trivial ?_
  refine go_newarray (b := false) (N := 5) (by decide +kernel) rfl rfl (by decide) (by decide) (by decide +kernel) rfl ?_
  rw [zer_id (n := 2) (M := (ZA, ZG, ZP)) (fun _ => rfl) (fun _ => rfl) (fun _ => rfl)]
  refine go_blk (pc2 := 13) (L2 := [.ref 1]) (st2 := [.int 5, .ref 1]) (M2 := (ZA, ZG, (u2 ZP 1 0 (.ref 2)))) (hs2 := []) (C := True) [(.putfield 9, 0, 0), (.aload_n 0, 0, 0), (.iconst 5, 0, 0)] [] (by decide +kernel) rfl trivial ?_
  refine go_newarray (b := false) (N := 5) (by decide +kernel) rfl rfl (by decide) (by decide) (by decide +kernel) rfl ?_
  rw [zer_id (n := 3) (M := (ZA, ZG, (u2 ZP 1 0 (.ref 2)))) (fun _ => rfl) (fun _ => rfl) (fun _ => rfl)]
  refine go_blk (pc2 := 20) (L2 := [.ref 1]) (st2 := [.int 5, .ref 1]) (M2 := (ZA, ZG, (u2 (u2 ZP 1 0 (.ref 2)) 1 1 (.ref 3)))) (hs2 := []) (C := True) [(.putfield 15, 0, 1), (.aload_n 0, 0, 0), (.iconst 5, 0, 0)] [] (by decide +kernel) rfl trivial ?_
  refine go_newarray (b := false) (N := 5) (by decide +kernel) rfl rfl (by decide) (by decide) (by decide +kernel) rfl ?_
  rw [zer_id (n := 4) (M := (ZA, ZG, (u2 (u2 ZP 1 0 (.ref 2)) 1 1 (.ref 3)))) (fun _ => rfl) (fun _ => rfl) (fun _ => rfl)]
  refine go_blk (pc2 := 27) (L2 := [.ref 1]) (st2 := [.int 5, .ref 1]) (M2 := (ZA, ZG, (u2 (u2 (u2 ZP 1 0 (.ref 2)) 1 1 (.ref 3)) 1 2 (.ref 4)))) (hs2 := []) (C := True) [(.putfield 18, 0, 2), (.aload_n 0, 0, 0), (.iconst 5, 0, 0)] [] (by decide +kernel) rfl trivial ?_
  refine go_newarray (b := false) (N := 5) (by decide +kernel) rfl rfl (by decide) (by decide) (by decide +kernel) rfl ?_
  rw [zer_id (n := 5) (M := (ZA, ZG, (u2 (u2 (u2 ZP 1 0 (.ref 2)) 1 1 (.ref 3)) 1 2 (.ref 4)))) (fun _ => rfl) (fun _ => rfl) (fun _ => rfl)]
  refine go_blk (pc2 := 34) (L2 := [.ref 1]) (st2 := [.int 5, .ref 1]) (M2 := (ZA, ZG, (u2 (u2 (u2 (u2 ZP 1 0 (.ref 2)) 1 1 (.ref 3)) 1 2 (.ref 4)) 1 3 (.ref 5)))) (hs2 := []) (C := True) [(.putfield 21, 0, 3), (.aload_n 0, 0, 0), (.iconst 5, 0, 0)] [] (by decide +kernel) rfl trivial ?_
  refine go_newarray (b := false) (N := 5) (by decide +kernel) rfl rfl (by decide) (by decide) (by decide +kernel) rfl ?_
  rw [zer_id (n := 6) (M := (ZA, ZG, (u2 (u2 (u2 (u2 ZP 1 0 (.ref 2)) 1 1 (.ref 3)) 1 2 (.ref 4)) 1 3 (.ref 5)))) (fun _ => rfl) (fun _ => rfl) (fun _ => rfl)]
  refine go_blk (pc2 := 41) (L2 := [.ref 1]) (st2 := [.int 5, .ref 1]) (M2 := (ZA, ZG, (u2 (u2 (u2 (u2 (u2 ZP 1 0 (.ref 2)) 1 1 (.ref 3)) 1 2 (.ref 4)) 1 3 (.ref 5)) 1 4 (.ref 6)))) (hs2 := []) (C := True) [(.putfield 24, 0, 4), (.aload_n 0, 0, 0), (.iconst 5, 0, 0)] [] (by decide +kernel) rfl trivial ?_
  refine go_newarray (b := false) (N := 5) (by decide +kernel) rfl rfl (by decide) (by decide) (by decide +kernel) rfl ?_
  rw [zer_id (n := 7) (M := (ZA, ZG, (u2 (u2 (u2 (u2 (u2 ZP 1 0 (.ref 2)) 1 1 (.ref 3)) 1 2 (.ref 4)) 1 3 (.ref 5)) 1 4 (.ref 6)))) (fun _ => rfl) (fun _ => rfl) (fun _ => rfl)]
  refine go_blk (pc2 := 48) (L2 := [.ref 1]) (st2 := [.int 5, .ref 1]) (M2 := (ZA, ZG, (u2 (u2 (u2 (u2 (u2 (u2 ZP 1 0 (.ref 2)) 1 1 (.ref 3)) 1 2 (.ref 4)) 1 3 (.ref 5)) 1 4 (.ref 6)) 1 5 (.ref 7)))) (hs2 := []) (C := True) [(.putfield 27, 0, 5), (.aload_n 0, 0, 0), (.iconst 5, 0, 0)] [] (by decide +kernel) rfl trivial ?_
  refine go_newarray (b := false) (N := 5) (by decide +kernel) rfl rfl (by decide) (by decide) (by decide +kernel) rfl ?_
  rw [zer_id (n := 8) (M := (ZA, ZG, (u2 (u2 (u2 (u2 (u2 (u2 ZP 1 0 (.ref 2)) 1 1 (.ref 3)) 1 2 (.ref 4)) 1 3 (.ref 5)) 1 4 (.ref 6)) 1 5 (.ref 7)))) (fun _ => rfl) (fun _ => rfl) (fun _ => rfl)]
  refine go_blk (pc2 := 58) (L2 := [.ref 1]) (st2 := []) (M2 := ((u2 ZA 1 7 0), ZG, (u2 (u2 (u2 (u2 (u2 (u2 (u2 ZP 1 0 (.ref 2)) 1 1 (.ref 3)) 1 2 (.ref 4)) 1 3 (.ref 5)) 1 4 (.ref 6)) 1 5 (.ref 7)) 1 6 (.ref 8)))) (hs2 := []) (C := True) [(.putfield 30, 0, 6), (.aload_n 0, 0, 0), (.iconst 0, 0, 0), (.putfield 33, 0, 7)] [] (by decide +kernel) rfl trivial ?_
  exact go_retv (by decide +kernel) rfl (⟨rfl, rfl⟩)
def PS_0 : Nat → Nat → Value := (u2 MP_0 0 0 (.ref 1))
def MA_2 : Nat → Nat → Int32 := (u2 (u2 MA_0 9 2 0) 9 3 0)
def MP_2 : Nat → Nat → Value := (u2 (u2 PS_0 9 0 (.ref 10)) 9 1 (.ref 11))
set_option maxRecDepth 100000 in
set_option maxHeartbeats 4000000 in
theorem s_X2_init (l : Launch) : Sem l mX2_init [.ref 9] 10 (MA_0, ZG, PS_0) 12 (pm (MA_2, ZG, MP_2)) := by
  refine sem_of_go (by decide) rfl (by decide) (by decide) rfl (Nat.le_of_ble_eq_true rfl) ?_
  show Go l ro0 mX2_init 10 (MA_0, ZG, PS_0) 0 [.ref 9] [] 12 (pm (MA_2, ZG, MP_2))
  refine go_blk (pc2 := 1) (L2 := [.ref 9]) (st2 := [.ref 9]) (M2 := (MA_0, ZG, PS_0)) (hs2 := []) (C := True) [(.aload_n 0, 0, 0)] [] (by decide +kernel) rfl trivial ?_
  refine go_obj (idx := 3) (p1 := 73) (by decide +kernel) (by decide +kernel) ⟨by decide, Nat.le_of_ble_eq_true rfl⟩ ?_
  refine go_blk (pc2 := 7) (L2 := [.ref 9]) (st2 := [.int 24, .ref 9]) (M2 := (MA_0, ZG, PS_0)) (hs2 := []) (C := True) [(.aload_n 0, 0, 0), (.bipush 24, 0, 0)] [] (by decide +kernel) rfl trivial ?_
  refine go_newarray (b := false) (N := 24) (by decide +kernel) rfl rfl (by decide) (by decide) (by decide +kernel) rfl ?_
  rw [zer_id (n := 10) (M := (MA_0, ZG, PS_0)) (fun _ => rfl) (fun _ => rfl) (fun _ => rfl)]
  refine go_blk (pc2 := 14) (L2 := [.ref 9]) (st2 := [.int 4, .ref 9]) (M2 := (MA_0, ZG, (u2 PS_0 9 0 (.ref 10)))) (hs2 := []) (C := True) [(.putfield 9, 2, 0), (.aload_n 0, 0, 0), (.iconst 4, 0, 0)] [] (by decide +kernel) rfl trivial ?_
  refine go_newarray (b := false) (N := 4) (by decide +kernel) rfl rfl (by decide) (by decide) (by decide +kernel) rfl ?_
  rw [zer_id (n := 11) (M := (MA_0, ZG, (u2 PS_0 9 0 (.ref 10)))) (fun _ => rfl) (fun _ => rfl) (fun _ => rfl)]
  refine go_blk (pc2 := 29) (L2 := [.ref 9]) (st2 := []) (M2 := ((u2 (u2 MA_0 9 2 0) 9 3 0), ZG, (u2 (u2 PS_0 9 0 (.ref 10)) 9 1 (.ref 11)))) (hs2 := []) (C := True) [(.putfield 15, 2, 1), (.aload_n 0, 0, 0), (.iconst 0, 0, 0), (.putfield 18, 2, 2), (.aload_n 0, 0, 0), (.iconst 0, 0, 0), (.putfield 22, 2, 3)] [] (by decide +kernel) rfl trivial ?_
  exact go_retv (by decide +kernel) rfl (⟨rfl, rfl⟩)
def PS_2 : Nat → Nat → Value := (u2 MP_2 0 1 (.ref 9))
def PS_3 : Nat → Nat → Value := (u2 (u2 (u2 (u2 (u2 (u2 (u2 (u2 (u2 PS_2 12 0 (.ref 13)) 12 1 (.ref 14)) 12 2 (.ref 15)) 12 3 (.ref 16)) 12 4 (.ref 17)) 12 5 (.ref 18)) 12 6 (.ref 19)) 12 7 (.ref 20)) 12 8 (.ref 21))
set_option maxRecDepth 100000 in
set_option maxHeartbeats 4000000 in
theorem s_X3_addTo0 (l : Launch) (A : Nat → Nat → Int32) (G : Nat → Nat → Int64) (p : Nat) (hp : p < 14) (v : Int32) : Sem l mX3_addTo [.ref 12, .int (nI p), .int 0, .int v] 22 (A, G, PS_3) 22 (pm (u2 A 13 p (A 13 p + v), G, PS_3)) := by
  refine sem_of_go (by decide) rfl (by decide) (by decide) rfl (Nat.le_of_ble_eq_true rfl) ?_
  show Go l ro0 mX3_addTo 22 (A, G, PS_3) 0 [.ref 12, .int (nI p), .int 0, .int v] [] 22 (pm (u2 A 13 p (A 13 p + v), G, PS_3))
  refine go_blk (pc2 := 1) (L2 := [.ref 12, .int (nI p), .int 0, .int v]) (st2 := [.int (nI p)]) (M2 := (A, G, PS_3)) (hs2 := []) (C := True) [(.iload_n 1, 0, 0)] [] (by decide +kernel) rfl trivial ?_
  refine go_ifz (cnd := .lt) (off := 9) 10 (by decide +kernel) (by decide) (fun (h : (nI p) < 0) => absurd h (fun zz => absurd ((nx_lt (a := p) (b := 0) rfl rfl (by omega) (by omega)).mp zz) (by omega))) (fun _ => ?_)
  refine go_blk (pc2 := 7) (L2 := [.ref 12, .int (nI p), .int 0, .int v]) (st2 := [.int 14, .int (nI p)]) (M2 := (A, G, PS_3)) (hs2 := []) (C := True) [(.iload_n 1, 0, 0), (.bipush 14, 0, 0)] [] (by decide +kernel) rfl trivial ?_
  refine go_cmp (cnd := .lt) (off := 4) 11 (by decide +kernel) (by decide) (fun _ => ?_) (fun (h : ¬ (nI p) < 14) => absurd h (fun zz => zz ((nx_lt (a := p) (b := 14) rfl rfl (by omega) (by omega)).mpr (by omega))))
  refine go_blk (pc2 := 12) (L2 := [.ref 12, .int (nI p), .int 0, .int v]) (st2 := [.int 0]) (M2 := (A, G, PS_3)) (hs2 := []) (C := True) [(.iload_n 2, 0, 0)] [] (by decide +kernel) rfl trivial ?_
  refine go_ifz (cnd := .ne) (off := 16) 28 (by decide +kernel) (by decide) (fun (h : ¬ (0 : Int32) = 0) => absurd h (by decide)) (fun _ => ?_)
  refine go_blk (pc2 := 25) (L2 := [.ref 12, .int (nI p), .int 0, .int v]) (st2 := []) (M2 := ((u2 A 13 p ((A 13 p) + v)), G, PS_3)) (hs2 := []) (C := ((nI p) = nI p ∧ p < 14) ∧ ((nI p) = nI p ∧ p < 14) ∧ True) [(.aload_n 0, 0, 0), (.getfield 11, 3, 0), (.iload_n 1, 0, 0), (.dup2, 0, 0), (.iaload, 0, 0), (.iload_n 3, 0, 0), (.iadd, 0, 0), (.iastore, 0, 0)] [p, p] (by decide +kernel) rfl ⟨⟨rfl, by omega⟩, ⟨rfl, by omega⟩, trivial⟩ ?_
  refine go_goto (off := 31) 56 (by decide +kernel) (by decide) ?_
  exact go_retv (by decide +kernel) rfl (⟨rfl, rfl⟩)
set_option maxRecDepth 100000 in
set_option maxHeartbeats 4000000 in
theorem s_X3_addTo1 (l : Launch) (A : Nat → Nat → Int32) (G : Nat → Nat → Int64) (p : Nat) (hp : p < 14) (v : Int32) : Sem l mX3_addTo [.ref 12, .int (nI p), .int 1, .int v] 22 (A, G, PS_3) 22 (pm (u2 A 14 p (A 14 p + v), G, PS_3)) := by
  refine sem_of_go (by decide) rfl (by decide) (by decide) rfl (Nat.le_of_ble_eq_true rfl) ?_
  show Go l ro0 mX3_addTo 22 (A, G, PS_3) 0 [.ref 12, .int (nI p), .int 1, .int v] [] 22 (pm (u2 A 14 p (A 14 p + v), G, PS_3))
  refine go_blk (pc2 := 1) (L2 := [.ref 12, .int (nI p), .int 1, .int v]) (st2 := [.int (nI p)]) (M2 := (A, G, PS_3)) (hs2 := []) (C := True) [(.iload_n 1, 0, 0)] [] (by decide +kernel) rfl trivial ?_
  refine go_ifz (cnd := .lt) (off := 9) 10 (by decide +kernel) (by decide) (fun (h : (nI p) < 0) => absurd h (fun zz => absurd ((nx_lt (a := p) (b := 0) rfl rfl (by omega) (by omega)).mp zz) (by omega))) (fun _ => ?_)
  refine go_blk (pc2 := 7) (L2 := [.ref 12, .int (nI p), .int 1, .int v]) (st2 := [.int 14, .int (nI p)]) (M2 := (A, G, PS_3)) (hs2 := []) (C := True) [(.iload_n 1, 0, 0), (.bipush 14, 0, 0)] [] (by decide +kernel) rfl trivial ?_
  refine go_cmp (cnd := .lt) (off := 4) 11 (by decide +kernel) (by decide) (fun _ => ?_) (fun (h : ¬ (nI p) < 14) => absurd h (fun zz => zz ((nx_lt (a := p) (b := 14) rfl rfl (by omega) (by omega)).mpr (by omega))))
  refine go_blk (pc2 := 12) (L2 := [.ref 12, .int (nI p), .int 1, .int v]) (st2 := [.int 1]) (M2 := (A, G, PS_3)) (hs2 := []) (C := True) [(.iload_n 2, 0, 0)] [] (by decide +kernel) rfl trivial ?_
  refine go_ifz (cnd := .ne) (off := 16) 28 (by decide +kernel) (by decide) (fun _ => ?_) (fun (h : (1 : Int32) = 0) => absurd h (by decide))
  refine go_blk (pc2 := 30) (L2 := [.ref 12, .int (nI p), .int 1, .int v]) (st2 := [.int 1, .int 1]) (M2 := (A, G, PS_3)) (hs2 := []) (C := True) [(.iload_n 2, 0, 0), (.iconst 1, 0, 0)] [] (by decide +kernel) rfl trivial ?_
  refine go_cmp (cnd := .ne) (off := 16) 46 (by decide +kernel) (by decide) (fun (h : ¬ (1 : Int32) = 1) => absurd h (by decide)) (fun _ => ?_)
  refine go_blk (pc2 := 43) (L2 := [.ref 12, .int (nI p), .int 1, .int v]) (st2 := []) (M2 := ((u2 A 14 p ((A 14 p) + v)), G, PS_3)) (hs2 := []) (C := ((nI p) = nI p ∧ p < 14) ∧ ((nI p) = nI p ∧ p < 14) ∧ True) [(.aload_n 0, 0, 0), (.getfield 15, 3, 1), (.iload_n 1, 0, 0), (.dup2, 0, 0), (.iaload, 0, 0), (.iload_n 3, 0, 0), (.iadd, 0, 0), (.iastore, 0, 0)] [p, p] (by decide +kernel) rfl ⟨⟨rfl, by omega⟩, ⟨rfl, by omega⟩, trivial⟩ ?_
  refine go_goto (off := 13) 56 (by decide +kernel) (by decide) ?_
  exact go_retv (by decide +kernel) rfl (⟨rfl, rfl⟩)
set_option maxRecDepth 100000 in
set_option maxHeartbeats 4000000 in
theorem s_X3_addTo2 (l : Launch) (A : Nat → Nat → Int32) (G : Nat → Nat → Int64) (p : Nat) (hp : p < 14) (v : Int32) : Sem l mX3_addTo [.ref 12, .int (nI p), .int 2, .int v] 22 (A, G, PS_3) 22 (pm (u2 A 15 p (A 15 p + v), G, PS_3)) := by
  refine sem_of_go (by decide) rfl (by decide) (by decide) rfl (Nat.le_of_ble_eq_true rfl) ?_
  show Go l ro0 mX3_addTo 22 (A, G, PS_3) 0 [.ref 12, .int (nI p), .int 2, .int v] [] 22 (pm (u2 A 15 p (A 15 p + v), G, PS_3))
  refine go_blk (pc2 := 1) (L2 := [.ref 12, .int (nI p), .int 2, .int v]) (st2 := [.int (nI p)]) (M2 := (A, G, PS_3)) (hs2 := []) (C := True) [(.iload_n 1, 0, 0)] [] (by decide +kernel) rfl trivial ?_
  refine go_ifz (cnd := .lt) (off := 9) 10 (by decide +kernel) (by decide) (fun (h : (nI p) < 0) => absurd h (fun zz => absurd ((nx_lt (a := p) (b := 0) rfl rfl (by omega) (by omega)).mp zz) (by omega))) (fun _ => ?_)
  refine go_blk (pc2 := 7) (L2 := [.ref 12, .int (nI p), .int 2, .int v]) (st2 := [.int 14, .int (nI p)]) (M2 := (A, G, PS_3)) (hs2 := []) (C := True) [(.iload_n 1, 0, 0), (.bipush 14, 0, 0)] [] (by decide +kernel) rfl trivial ?_
  refine go_cmp (cnd := .lt) (off := 4) 11 (by decide +kernel) (by decide) (fun _ => ?_) (fun (h : ¬ (nI p) < 14) => absurd h (fun zz => zz ((nx_lt (a := p) (b := 14) rfl rfl (by omega) (by omega)).mpr (by omega))))
  refine go_blk (pc2 := 12) (L2 := [.ref 12, .int (nI p), .int 2, .int v]) (st2 := [.int 2]) (M2 := (A, G, PS_3)) (hs2 := []) (C := True) [(.iload_n 2, 0, 0)] [] (by decide +kernel) rfl trivial ?_
  refine go_ifz (cnd := .ne) (off := 16) 28 (by decide +kernel) (by decide) (fun _ => ?_) (fun (h : (2 : Int32) = 0) => absurd h (by decide))
  refine go_blk (pc2 := 30) (L2 := [.ref 12, .int (nI p), .int 2, .int v]) (st2 := [.int 1, .int 2]) (M2 := (A, G, PS_3)) (hs2 := []) (C := True) [(.iload_n 2, 0, 0), (.iconst 1, 0, 0)] [] (by decide +kernel) rfl trivial ?_
  refine go_cmp (cnd := .ne) (off := 16) 46 (by decide +kernel) (by decide) (fun _ => ?_) (fun (h : (2 : Int32) = 1) => absurd h (by decide))
  refine go_blk (pc2 := 56) (L2 := [.ref 12, .int (nI p), .int 2, .int v]) (st2 := []) (M2 := ((u2 A 15 p ((A 15 p) + v)), G, PS_3)) (hs2 := []) (C := ((nI p) = nI p ∧ p < 14) ∧ ((nI p) = nI p ∧ p < 14) ∧ True) [(.aload_n 0, 0, 0), (.getfield 18, 3, 2), (.iload_n 1, 0, 0), (.dup2, 0, 0), (.iaload, 0, 0), (.iload_n 3, 0, 0), (.iadd, 0, 0), (.iastore, 0, 0)] [p, p] (by decide +kernel) rfl ⟨⟨rfl, by omega⟩, ⟨rfl, by omega⟩, trivial⟩ ?_
  exact go_retv (by decide +kernel) rfl (⟨rfl, rfl⟩)
def MA_3 : Nat → Nat → Int32 := (u2 (u2 (u2 (u2 (u2 (u2 (u2 (u2 (u2 (u2 (u2 (u2 (u2 (u2 (u2 (u2 (u2 (u2 (u2 MA_2 12 9 0) 13 5 ((MA_2 13 5) + 1)) 14 5 ((MA_2 14 5) + (-1))) 13 6 ((MA_2 13 6) + 1)) 15 6 ((MA_2 15 6) + (-1))) 14 7 ((MA_2 14 7) + 1)) 15 7 ((MA_2 15 7) + (-1))) 13 8 ((MA_2 13 8) + 1)) 13 9 ((MA_2 13 9) + 1)) 16 8 20) 16 9 (-20)) 14 10 ((MA_2 14 10) + 1)) 14 11 ((MA_2 14 11) + 1)) 16 10 20) 16 11 (-20)) 15 12 ((MA_2 15 12) + 1)) 15 13 ((MA_2 15 13) + 1)) 16 12 20) 16 13 (-20))
def MP_3 : Nat → Nat → Value := (u2 (u2 (u2 (u2 (u2 (u2 (u2 (u2 (u2 PS_2 12 0 (.ref 13)) 12 1 (.ref 14)) 12 2 (.ref 15)) 12 3 (.ref 16)) 12 4 (.ref 17)) 12 5 (.ref 18)) 12 6 (.ref 19)) 12 7 (.ref 20)) 12 8 (.ref 21))
set_option maxRecDepth 100000 in
set_option maxHeartbeats 4000000 in
theorem s_X3_init (l : Launch) : Sem l mX3_init [.ref 12] 13 (MA_2, ZG, PS_2) 22 (pm (MA_3, ZG, MP_3)) := by
  refine sem_of_go (by decide) rfl (by decide) (by decide) rfl (Nat.le_of_ble_eq_true rfl) ?_
  show Go l ro0 mX3_init 13 (MA_2, ZG, PS_2) 0 [.ref 12, .null] [] 22 (pm (MA_3, ZG, MP_3))
  refine go_blk (pc2 := 1) (L2 := [.ref 12, .null]) (st2 := [.ref 12]) (M2 := (MA_2, ZG, PS_2)) (hs2 := []) (C := True) [(.aload_n 0, 0, 0)] [] (by decide +kernel) rfl trivial ?_
  refine go_obj (idx := 3) (p1 := 92) (by decide +kernel) (by decide +kernel) ⟨by decide, Nat.le_of_ble_eq_true rfl⟩ ?_
  refine go_blk (pc2 := 7) (L2 := [.ref 12, .null]) (st2 := [.int 14, .ref 12]) (M2 := (MA_2, ZG, PS_2)) (hs2 := []) (C := True) [(.aload_n 0, 0, 0), (.bipush 14, 0, 0)] [] (by decide +kernel) rfl trivial ?_
  refine go_newarray (b := false) (N := 14) (by decide +kernel) rfl rfl (by decide) (by decide) (by decide +kernel) rfl ?_
  rw [zer_id (n := 13) (M := (MA_2, ZG, PS_2)) (fun _ => rfl) (fun _ => rfl) (fun _ => rfl)]
  refine go_blk (pc2 := 15) (L2 := [.ref 12, .null]) (st2 := [.int 14, .ref 12]) (M2 := (MA_2, ZG, (u2 PS_2 12 0 (.ref 13)))) (hs2 := []) (C := True) [(.putfield 11, 3, 0), (.aload_n 0, 0, 0), (.bipush 14, 0, 0)] [] (by decide +kernel) rfl trivial ?_
  refine go_newarray (b := false) (N := 14) (by decide +kernel) rfl rfl (by decide) (by decide) (by decide +kernel) rfl ?_
  rw [zer_id (n := 14) (M := (MA_2, ZG, (u2 PS_2 12 0 (.ref 13)))) (fun _ => rfl) (fun _ => rfl) (fun _ => rfl)]
  refine go_blk (pc2 := 23) (L2 := [.ref 12, .null]) (st2 := [.int 14, .ref 12]) (M2 := (MA_2, ZG, (u2 (u2 PS_2 12 0 (.ref 13)) 12 1 (.ref 14)))) (hs2 := []) (C := True) [(.putfield 15, 3, 1), (.aload_n 0, 0, 0), (.bipush 14, 0, 0)] [] (by decide +kernel) rfl trivial ?_
  refine go_newarray (b := false) (N := 14) (by decide +kernel) rfl rfl (by decide) (by decide) (by decide +kernel) rfl ?_
  rw [zer_id (n := 15) (M := (MA_2, ZG, (u2 (u2 PS_2 12 0 (.ref 13)) 12 1 (.ref 14)))) (fun _ => rfl) (fun _ => rfl) (fun _ => rfl)]
  refine go_blk (pc2 := 31) (L2 := [.ref 12, .null]) (st2 := [.int 14, .ref 12]) (M2 := (MA_2, ZG, (u2 (u2 (u2 PS_2 12 0 (.ref 13)) 12 1 (.ref 14)) 12 2 (.ref 15)))) (hs2 := []) (C := True) [(.putfield 18, 3, 2), (.aload_n 0, 0, 0), (.bipush 14, 0, 0)] [] (by decide +kernel) rfl trivial ?_
  refine go_newarray (b := false) (N := 14) (by decide +kernel) rfl rfl (by decide) (by decide) (by decide +kernel) rfl ?_
  rw [zer_id (n := 16) (M := (MA_2, ZG, (u2 (u2 (u2 PS_2 12 0 (.ref 13)) 12 1 (.ref 14)) 12 2 (.ref 15)))) (fun _ => rfl) (fun _ => rfl) (fun _ => rfl)]
  refine go_blk (pc2 := 40) (L2 := [.ref 12, .null]) (st2 := [.int 364, .ref 12]) (M2 := (MA_2, ZG, (u2 (u2 (u2 (u2 PS_2 12 0 (.ref 13)) 12 1 (.ref 14)) 12 2 (.ref 15)) 12 3 (.ref 16)))) (hs2 := []) (C := True) [(.putfield 21, 3, 3), (.aload_n 0, 0, 0), (.sipush 364, 0, 0)] [] (by decide +kernel) rfl trivial ?_
  refine go_newarray (b := false) (N := 364) (by decide +kernel) rfl rfl (by decide) (by decide) (by decide +kernel) rfl ?_
  rw [zer_id (n := 17) (M := (MA_2, ZG, (u2 (u2 (u2 (u2 PS_2 12 0 (.ref 13)) 12 1 (.ref 14)) 12 2 (.ref 15)) 12 3 (.ref 16)))) (fun _ => rfl) (fun _ => rfl) (fun _ => rfl)]
  refine go_blk (pc2 := 49) (L2 := [.ref 12, .null]) (st2 := [.int 364, .ref 12]) (M2 := (MA_2, ZG, (u2 (u2 (u2 (u2 (u2 PS_2 12 0 (.ref 13)) 12 1 (.ref 14)) 12 2 (.ref 15)) 12 3 (.ref 16)) 12 4 (.ref 17)))) (hs2 := []) (C := True) [(.putfield 24, 3, 4), (.aload_n 0, 0, 0), (.sipush 364, 0, 0)] [] (by decide +kernel) rfl trivial ?_
  refine go_newarray (b := false) (N := 364) (by decide +kernel) rfl rfl (by decide) (by decide) (by decide +kernel) rfl ?_
  rw [zer_id (n := 18) (M := (MA_2, ZG, (u2 (u2 (u2 (u2 (u2 PS_2 12 0 (.ref 13)) 12 1 (.ref 14)) 12 2 (.ref 15)) 12 3 (.ref 16)) 12 4 (.ref 17)))) (fun _ => rfl) (fun _ => rfl) (fun _ => rfl)]
  refine go_blk (pc2 := 58) (L2 := [.ref 12, .null]) (st2 := [.int 364, .ref 12]) (M2 := (MA_2, ZG, (u2 (u2 (u2 (u2 (u2 (u2 PS_2 12 0 (.ref 13)) 12 1 (.ref 14)) 12 2 (.ref 15)) 12 3 (.ref 16)) 12 4 (.ref 17)) 12 5 (.ref 18)))) (hs2 := []) (C := True) [(.putfield 27, 3, 5), (.aload_n 0, 0, 0), (.sipush 364, 0, 0)] [] (by decide +kernel) rfl trivial ?_
  refine go_newarray (b := false) (N := 364) (by decide +kernel) rfl rfl (by decide) (by decide) (by decide +kernel) rfl ?_
  rw [zer_id (n := 19) (M := (MA_2, ZG, (u2 (u2 (u2 (u2 (u2 (u2 PS_2 12 0 (.ref 13)) 12 1 (.ref 14)) 12 2 (.ref 15)) 12 3 (.ref 16)) 12 4 (.ref 17)) 12 5 (.ref 18)))) (fun _ => rfl) (fun _ => rfl) (fun _ => rfl)]
  refine go_blk (pc2 := 67) (L2 := [.ref 12, .null]) (st2 := [.int 364, .ref 12]) (M2 := (MA_2, ZG, (u2 (u2 (u2 (u2 (u2 (u2 (u2 PS_2 12 0 (.ref 13)) 12 1 (.ref 14)) 12 2 (.ref 15)) 12 3 (.ref 16)) 12 4 (.ref 17)) 12 5 (.ref 18)) 12 6 (.ref 19)))) (hs2 := []) (C := True) [(.putfield 30, 3, 6), (.aload_n 0, 0, 0), (.sipush 364, 0, 0)] [] (by decide +kernel) rfl trivial ?_
  refine go_newarray (b := false) (N := 364) (by decide +kernel) rfl rfl (by decide) (by decide) (by decide +kernel) rfl ?_
  rw [zer_id (n := 20) (M := (MA_2, ZG, (u2 (u2 (u2 (u2 (u2 (u2 (u2 PS_2 12 0 (.ref 13)) 12 1 (.ref 14)) 12 2 (.ref 15)) 12 3 (.ref 16)) 12 4 (.ref 17)) 12 5 (.ref 18)) 12 6 (.ref 19)))) (fun _ => rfl) (fun _ => rfl) (fun _ => rfl)]
  refine go_blk (pc2 := 76) (L2 := [.ref 12, .null]) (st2 := [.int 364, .ref 12]) (M2 := (MA_2, ZG, (u2 (u2 (u2 (u2 (u2 (u2 (u2 (u2 PS_2 12 0 (.ref 13)) 12 1 (.ref 14)) 12 2 (.ref 15)) 12 3 (.ref 16)) 12 4 (.ref 17)) 12 5 (.ref 18)) 12 6 (.ref 19)) 12 7 (.ref 20)))) (hs2 := []) (C := True) [(.putfield 33, 3, 7), (.aload_n 0, 0, 0), (.sipush 364, 0, 0)] [] (by decide +kernel) rfl trivial ?_
  refine go_newarray (b := false) (N := 364) (by decide +kernel) rfl rfl (by decide) (by decide) (by decide +kernel) rfl ?_
  rw [zer_id (n := 21) (M := (MA_2, ZG, (u2 (u2 (u2 (u2 (u2 (u2 (u2 (u2 PS_2 12 0 (.ref 13)) 12 1 (.ref 14)) 12 2 (.ref 15)) 12 3 (.ref 16)) 12 4 (.ref 17)) 12 5 (.ref 18)) 12 6 (.ref 19)) 12 7 (.ref 20)))) (fun _ => rfl) (fun _ => rfl) (fun _ => rfl)]
  refine go_blk (pc2 := 90) (L2 := [.ref 12, .int 0]) (st2 := [.int 3, .int 0]) (M2 := ((u2 MA_2 12 9 0), ZG, (u2 (u2 (u2 (u2 (u2 (u2 (u2 (u2 (u2 PS_2 12 0 (.ref 13)) 12 1 (.ref 14)) 12 2 (.ref 15)) 12 3 (.ref 16)) 12 4 (.ref 17)) 12 5 (.ref 18)) 12 6 (.ref 19)) 12 7 (.ref 20)) 12 8 (.ref 21)))) (hs2 := []) (C := True) [(.putfield 36, 3, 8), (.aload_n 0, 0, 0), (.iconst 0, 0, 0), (.putfield 39, 3, 9), (.iconst 0, 0, 0), (.istore_n 1, 0, 0), (.iload_n 1, 0, 0), (.iconst 3, 0, 0)] [] (by decide +kernel) rfl trivial ?_
  refine go_cmp (cnd := .ge) (off := 35) 125 (by decide +kernel) (by decide) (fun (h : 3 ≤ (0 : Int32)) => absurd h (by decide)) (fun _ => ?_)
  refine go_blk (pc2 := 103) (L2 := [.ref 12, .int 0]) (st2 := [.int 1, .int 0, .int 5, .ref 12]) (M2 := ((u2 MA_2 12 9 0), ZG, (u2 (u2 (u2 (u2 (u2 (u2 (u2 (u2 (u2 PS_2 12 0 (.ref 13)) 12 1 (.ref 14)) 12 2 (.ref 15)) 12 3 (.ref 16)) 12 4 (.ref 17)) 12 5 (.ref 18)) 12 6 (.ref 19)) 12 7 (.ref 20)) 12 8 (.ref 21)))) (hs2 := []) (C := (0 = nI 0 ∧ 0 < 3) ∧ True) [(.aload_n 0, 0, 0), (.iconst 5, 0, 0), (.iload_n 1, 0, 0), (.iadd, 0, 0), (.getstatic 43, 100, 0), (.iload_n 1, 0, 0), (.iaload, 0, 0), (.iconst 1, 0, 0)] [0] (by decide +kernel) rfl ⟨⟨rfl, by decide⟩, trivial⟩ ?_
  refine go_call (Y2 := mX3_addTo) (n2 := 22) (st := []) [.ref 12] [.int 5, .int 0, .int 1] ck_3_46 cwX3_addTo rfl (by decide +kernel) rfl (fun h => absurd h (by decide)) (fun _ => ⟨12, rfl, by decide, rfl⟩) (Nat.le_of_ble_eq_true rfl) (Or.inl rfl) (fun _ _ _ h => h) (s_X3_addTo0 l (u2 MA_2 12 9 0) ZG 5 (by decide) 1) (fun v M2 hp1 => ?_)
  obtain ⟨rfl, rfl⟩ := hp1
  show Go l ro0 mX3_init 22 ((u2 (u2 MA_2 12 9 0) 13 5 ((MA_2 13 5) + 1)), ZG, (u2 (u2 (u2 (u2 (u2 (u2 (u2 (u2 (u2 PS_2 12 0 (.ref 13)) 12 1 (.ref 14)) 12 2 (.ref 15)) 12 3 (.ref 16)) 12 4 (.ref 17)) 12 5 (.ref 18)) 12 6 (.ref 19)) 12 7 (.ref 20)) 12 8 (.ref 21))) 106 [.ref 12, .int 0] [] 22 _
  refine go_blk (pc2 := 116) (L2 := [.ref 12, .int 0]) (st2 := [.int (-1), .int 1, .int 5, .ref 12]) (M2 := ((u2 (u2 MA_2 12 9 0) 13 5 ((MA_2 13 5) + 1)), ZG, (u2 (u2 (u2 (u2 (u2 (u2 (u2 (u2 (u2 PS_2 12 0 (.ref 13)) 12 1 (.ref 14)) 12 2 (.ref 15)) 12 3 (.ref 16)) 12 4 (.ref 17)) 12 5 (.ref 18)) 12 6 (.ref 19)) 12 7 (.ref 20)) 12 8 (.ref 21)))) (hs2 := []) (C := (0 = nI 0 ∧ 0 < 3) ∧ True) [(.aload_n 0, 0, 0), (.iconst 5, 0, 0), (.iload_n 1, 0, 0), (.iadd, 0, 0), (.getstatic 50, 101, 0), (.iload_n 1, 0, 0), (.iaload, 0, 0), (.iconst (-1), 0, 0)] [0] (by decide +kernel) rfl ⟨⟨rfl, by decide⟩, trivial⟩ ?_
  refine go_call (Y2 := mX3_addTo) (n2 := 22) (st := []) [.ref 12] [.int 5, .int 1, .int (-1)] ck_3_46 cwX3_addTo rfl (by decide +kernel) rfl (fun h => absurd h (by decide)) (fun _ => ⟨12, rfl, by decide, rfl⟩) (Nat.le_of_ble_eq_true rfl) (Or.inl rfl) (fun _ _ _ h => h) (s_X3_addTo1 l (u2 (u2 MA_2 12 9 0) 13 5 ((MA_2 13 5) + 1)) ZG 5 (by decide) (-1)) (fun v M2 hp2 => ?_)
  obtain ⟨rfl, rfl⟩ := hp2
  show Go l ro0 mX3_init 22 ((u2 (u2 (u2 MA_2 12 9 0) 13 5 ((MA_2 13 5) + 1)) 14 5 ((MA_2 14 5) + (-1))), ZG, (u2 (u2 (u2 (u2 (u2 (u2 (u2 (u2 (u2 PS_2 12 0 (.ref 13)) 12 1 (.ref 14)) 12 2 (.ref 15)) 12 3 (.ref 16)) 12 4 (.ref 17)) 12 5 (.ref 18)) 12 6 (.ref 19)) 12 7 (.ref 20)) 12 8 (.ref 21))) 119 [.ref 12, .int 0] [] 22 _
  refine go_blk (pc2 := 122) (L2 := [.ref 12, .int 1]) (st2 := []) (M2 := ((u2 (u2 (u2 MA_2 12 9 0) 13 5 ((MA_2 13 5) + 1)) 14 5 ((MA_2 14 5) + (-1))), ZG, (u2 (u2 (u2 (u2 (u2 (u2 (u2 (u2 (u2 PS_2 12 0 (.ref 13)) 12 1 (.ref 14)) 12 2 (.ref 15)) 12 3 (.ref 16)) 12 4 (.ref 17)) 12 5 (.ref 18)) 12 6 (.ref 19)) 12 7 (.ref 20)) 12 8 (.ref 21)))) (hs2 := []) (C := True) [(.iinc 1 1, 0, 0)] [] (by decide +kernel) rfl trivial ?_
  refine go_goto (off := -34) 88 (by decide +kernel) (by decide) ?_
  refine go_blk (pc2 := 90) (L2 := [.ref 12, .int 1]) (st2 := [.int 3, .int 1]) (M2 := ((u2 (u2 (u2 MA_2 12 9 0) 13 5 ((MA_2 13 5) + 1)) 14 5 ((MA_2 14 5) + (-1))), ZG, (u2 (u2 (u2 (u2 (u2 (u2 (u2 (u2 (u2 PS_2 12 0 (.ref 13)) 12 1 (.ref 14)) 12 2 (.ref 15)) 12 3 (.ref 16)) 12 4 (.ref 17)) 12 5 (.ref 18)) 12 6 (.ref 19)) 12 7 (.ref 20)) 12 8 (.ref 21)))) (hs2 := []) (C := True) [(.iload_n 1, 0, 0), (.iconst 3, 0, 0)] [] (by decide +kernel) rfl trivial ?_
  refine go_cmp (cnd := .ge) (off := 35) 125 (by decide +kernel) (by decide) (fun (h : 3 ≤ (1 : Int32)) => absurd h (by decide)) (fun _ => ?_)
  refine go_blk (pc2 := 103) (L2 := [.ref 12, .int 1]) (st2 := [.int 1, .int 0, .int 6, .ref 12]) (M2 := ((u2 (u2 (u2 MA_2 12 9 0) 13 5 ((MA_2 13 5) + 1)) 14 5 ((MA_2 14 5) + (-1))), ZG, (u2 (u2 (u2 (u2 (u2 (u2 (u2 (u2 (u2 PS_2 12 0 (.ref 13)) 12 1 (.ref 14)) 12 2 (.ref 15)) 12 3 (.ref 16)) 12 4 (.ref 17)) 12 5 (.ref 18)) 12 6 (.ref 19)) 12 7 (.ref 20)) 12 8 (.ref 21)))) (hs2 := []) (C := (1 = nI 1 ∧ 1 < 3) ∧ True) [(.aload_n 0, 0, 0), (.iconst 5, 0, 0), (.iload_n 1, 0, 0), (.iadd, 0, 0), (.getstatic 43, 100, 0), (.iload_n 1, 0, 0), (.iaload, 0, 0), (.iconst 1, 0, 0)] [1] (by decide +kernel) rfl ⟨⟨rfl, by decide⟩, trivial⟩ ?_
  refine go_call (Y2 := mX3_addTo) (n2 := 22) (st := []) [.ref 12] [.int 6, .int 0, .int 1] ck_3_46 cwX3_addTo rfl (by decide +kernel) rfl (fun h => absurd h (by decide)) (fun _ => ⟨12, rfl, by decide, rfl⟩) (Nat.le_of_ble_eq_true rfl) (Or.inl rfl) (fun _ _ _ h => h) (s_X3_addTo0 l (u2 (u2 (u2 MA_2 12 9 0) 13 5 ((MA_2 13 5) + 1)) 14 5 ((MA_2 14 5) + (-1))) ZG 6 (by decide) 1) (fun v M2 hp3 => ?_)
  obtain ⟨rfl, rfl⟩ := hp3
  show Go l ro0 mX3_init 22 ((u2 (u2 (u2 (u2 MA_2 12 9 0) 13 5 ((MA_2 13 5) + 1)) 14 5 ((MA_2 14 5) + (-1))) 13 6 ((MA_2 13 6) + 1)), ZG, (u2 (u2 (u2 (u2 (u2 (u2 (u2 (u2 (u2 PS_2 12 0 (.ref 13)) 12 1 (.ref 14)) 12 2 (.ref 15)) 12 3 (.ref 16)) 12 4 (.ref 17)) 12 5 (.ref 18)) 12 6 (.ref 19)) 12 7 (.ref 20)) 12 8 (.ref 21))) 106 [.ref 12, .int 1] [] 22 _
  refine go_blk (pc2 := 116) (L2 := [.ref 12, .int 1]) (st2 := [.int (-1), .int 2, .int 6, .ref 12]) (M2 := ((u2 (u2 (u2 (u2 MA_2 12 9 0) 13 5 ((MA_2 13 5) + 1)) 14 5 ((MA_2 14 5) + (-1))) 13 6 ((MA_2 13 6) + 1)), ZG, (u2 (u2 (u2 (u2 (u2 (u2 (u2 (u2 (u2 PS_2 12 0 (.ref 13)) 12 1 (.ref 14)) 12 2 (.ref 15)) 12 3 (.ref 16)) 12 4 (.ref 17)) 12 5 (.ref 18)) 12 6 (.ref 19)) 12 7 (.ref 20)) 12 8 (.ref 21)))) (hs2 := []) (C := (1 = nI 1 ∧ 1 < 3) ∧ True) [(.aload_n 0, 0, 0), (.iconst 5, 0, 0), (.iload_n 1, 0, 0), (.iadd, 0, 0), (.getstatic 50, 101, 0), (.iload_n 1, 0, 0), (.iaload, 0, 0), (.iconst (-1), 0, 0)] [1] (by decide +kernel) rfl ⟨⟨rfl, by decide⟩, trivial⟩ ?_
  refine go_call (Y2 := mX3_addTo) (n2 := 22) (st := []) [.ref 12] [.int 6, .int 2, .int (-1)] ck_3_46 cwX3_addTo rfl (by decide +kernel) rfl (fun h => absurd h (by decide)) (fun _ => ⟨12, rfl, by decide, rfl⟩) (Nat.le_of_ble_eq_true rfl) (Or.inl rfl) (fun _ _ _ h => h) (s_X3_addTo2 l (u2 (u2 (u2 (u2 MA_2 12 9 0) 13 5 ((MA_2 13 5) + 1)) 14 5 ((MA_2 14 5) + (-1))) 13 6 ((MA_2 13 6) + 1)) ZG 6 (by decide) (-1)) (fun v M2 hp4 => ?_)
  obtain ⟨rfl, rfl⟩ := hp4
  show Go l ro0 mX3_init 22 ((u2 (u2 (u2 (u2 (u2 MA_2 12 9 0) 13 5 ((MA_2 13 5) + 1)) 14 5 ((MA_2 14 5) + (-1))) 13 6 ((MA_2 13 6) + 1)) 15 6 ((MA_2 15 6) + (-1))), ZG, (u2 (u2 (u2 (u2 (u2 (u2 (u2 (u2 (u2 PS_2 12 0 (.ref 13)) 12 1 (.ref 14)) 12 2 (.ref 15)) 12 3 (.ref 16)) 12 4 (.ref 17)) 12 5 (.ref 18)) 12 6 (.ref 19)) 12 7 (.ref 20)) 12 8 (.ref 21))) 119 [.ref 12, .int 1] [] 22 _
  refine go_blk (pc2 := 122) (L2 := [.ref 12, .int 2]) (st2 := []) (M2 := ((u2 (u2 (u2 (u2 (u2 MA_2 12 9 0) 13 5 ((MA_2 13 5) + 1)) 14 5 ((MA_2 14 5) + (-1))) 13 6 ((MA_2 13 6) + 1)) 15 6 ((MA_2 15 6) + (-1))), ZG, (u2 (u2 (u2 (u2 (u2 (u2 (u2 (u2 (u2 PS_2 12 0 (.ref 13)) 12 1 (.ref 14)) 12 2 (.ref 15)) 12 3 (.ref 16)) 12 4 (.ref 17)) 12 5 (.ref 18)) 12 6 (.ref 19)) 12 7 (.ref 20)) 12 8 (.ref 21)))) (hs2 := []) (C := True) [(.iinc 1 1, 0, 0)] [] (by decide +kernel) rfl trivial ?_
  refine go_goto (off := -34) 88 (by decide +kernel) (by decide) ?_
  refine go_blk (pc2 := 90) (L2 := [.ref 12, .int 2]) (st2 := [.int 3, .int 2]) (M2 := ((u2 (u2 (u2 (u2 (u2 MA_2 12 9 0) 13 5 ((MA_2 13 5) + 1)) 14 5 ((MA_2 14 5) + (-1))) 13 6 ((MA_2 13 6) + 1)) 15 6 ((MA_2 15 6) + (-1))), ZG, (u2 (u2 (u2 (u2 (u2 (u2 (u2 (u2 (u2 PS_2 12 0 (.ref 13)) 12 1 (.ref 14)) 12 2 (.ref 15)) 12 3 (.ref 16)) 12 4 (.ref 17)) 12 5 (.ref 18)) 12 6 (.ref 19)) 12 7 (.ref 20)) 12 8 (.ref 21)))) (hs2 := []) (C := True) [(.iload_n 1, 0, 0), (.iconst 3, 0, 0)] [] (by decide +kernel) rfl trivial ?_
  refine go_cmp (cnd := .ge) (off := 35) 125 (by decide +kernel) (by decide) (fun (h : 3 ≤ (2 : Int32)) => absurd h (by decide)) (fun _ => ?_)
  refine go_blk (pc2 := 103) (L2 := [.ref 12, .int 2]) (st2 := [.int 1, .int 1, .int 7, .ref 12]) (M2 := ((u2 (u2 (u2 (u2 (u2 MA_2 12 9 0) 13 5 ((MA_2 13 5) + 1)) 14 5 ((MA_2 14 5) + (-1))) 13 6 ((MA_2 13 6) + 1)) 15 6 ((MA_2 15 6) + (-1))), ZG, (u2 (u2 (u2 (u2 (u2 (u2 (u2 (u2 (u2 PS_2 12 0 (.ref 13)) 12 1 (.ref 14)) 12 2 (.ref 15)) 12 3 (.ref 16)) 12 4 (.ref 17)) 12 5 (.ref 18)) 12 6 (.ref 19)) 12 7 (.ref 20)) 12 8 (.ref 21)))) (hs2 := []) (C := (2 = nI 2 ∧ 2 < 3) ∧ True) [(.aload_n 0, 0, 0), (.iconst 5, 0, 0), (.iload_n 1, 0, 0), (.iadd, 0, 0), (.getstatic 43, 100, 0), (.iload_n 1, 0, 0), (.iaload, 0, 0), (.iconst 1, 0, 0)] [2] (by decide +kernel) rfl ⟨⟨rfl, by decide⟩, trivial⟩ ?_
  refine go_call (Y2 := mX3_addTo) (n2 := 22) (st := []) [.ref 12] [.int 7, .int 1, .int 1] ck_3_46 cwX3_addTo rfl (by decide +kernel) rfl (fun h => absurd h (by decide)) (fun _ => ⟨12, rfl, by decide, rfl⟩) (Nat.le_of_ble_eq_true rfl) (Or.inl rfl) (fun _ _ _ h => h) (s_X3_addTo1 l (u2 (u2 (u2 (u2 (u2 MA_2 12 9 0) 13 5 ((MA_2 13 5) + 1)) 14 5 ((MA_2 14 5) + (-1))) 13 6 ((MA_2 13 6) + 1)) 15 6 ((MA_2 15 6) + (-1))) ZG 7 (by decide) 1) (fun v M2 hp5 => ?_)
  obtain ⟨rfl, rfl⟩ := hp5
  show Go l ro0 mX3_init 22 ((u2 (u2 (u2 (u2 (u2 (u2 MA_2 12 9 0) 13 5 ((MA_2 13 5) + 1)) 14 5 ((MA_2 14 5) + (-1))) 13 6 ((MA_2 13 6) + 1)) 15 6 ((MA_2 15 6) + (-1))) 14 7 ((MA_2 14 7) + 1)), ZG, (u2 (u2 (u2 (u2 (u2 (u2 (u2 (u2 (u2 PS_2 12 0 (.ref 13)) 12 1 (.ref 14)) 12 2 (.ref 15)) 12 3 (.ref 16)) 12 4 (.ref 17)) 12 5 (.ref 18)) 12 6 (.ref 19)) 12 7 (.ref 20)) 12 8 (.ref 21))) 106 [.ref 12, .int 2] [] 22 _
  refine go_blk (pc2 := 116) (L2 := [.ref 12, .int 2]) (st2 := [.int (-1), .int 2, .int 7, .ref 12]) (M2 := ((u2 (u2 (u2 (u2 (u2 (u2 MA_2 12 9 0) 13 5 ((MA_2 13 5) + 1)) 14 5 ((MA_2 14 5) + (-1))) 13 6 ((MA_2 13 6) + 1)) 15 6 ((MA_2 15 6) + (-1))) 14 7 ((MA_2 14 7) + 1)), ZG, (u2 (u2 (u2 (u2 (u2 (u2 (u2 (u2 (u2 PS_2 12 0 (.ref 13)) 12 1 (.ref 14)) 12 2 (.ref 15)) 12 3 (.ref 16)) 12 4 (.ref 17)) 12 5 (.ref 18)) 12 6 (.ref 19)) 12 7 (.ref 20)) 12 8 (.ref 21)))) (hs2 := []) (C := (2 = nI 2 ∧ 2 < 3) ∧ True) [(.aload_n 0, 0, 0), (.iconst 5, 0, 0), (.iload_n 1, 0, 0), (.iadd, 0, 0), (.getstatic 50, 101, 0), (.iload_n 1, 0, 0), (.iaload, 0, 0), (.iconst (-1), 0, 0)] [2] (by decide +kernel) rfl ⟨⟨rfl, by decide⟩, trivial⟩ ?_
  refine go_call (Y2 := mX3_addTo) (n2 := 22) (st := []) [.ref 12] [.int 7, .int 2, .int (-1)] ck_3_46 cwX3_addTo rfl (by decide +kernel) rfl (fun h => absurd h (by decide)) (fun _ => ⟨12, rfl, by decide, rfl⟩) (Nat.le_of_ble_eq_true rfl) (Or.inl rfl) (fun _ _ _ h => h) (s_X3_addTo2 l (u2 (u2 (u2 (u2 (u2 (u2 MA_2 12 9 0) 13 5 ((MA_2 13 5) + 1)) 14 5 ((MA_2 14 5) + (-1))) 13 6 ((MA_2 13 6) + 1)) 15 6 ((MA_2 15 6) + (-1))) 14 7 ((MA_2 14 7) + 1)) ZG 7 (by decide) (-1)) (fun v M2 hp6 => ?_)
  obtain ⟨rfl, rfl⟩ := hp6
  show Go l ro0 mX3_init 22 ((u2 (u2 (u2 (u2 (u2 (u2 (u2 MA_2 12 9 0) 13 5 ((MA_2 13 5) + 1)) 14 5 ((MA_2 14 5) + (-1))) 13 6 ((MA_2 13 6) + 1)) 15 6 ((MA_2 15 6) + (-1))) 14 7 ((MA_2 14 7) + 1)) 15 7 ((MA_2 15 7) + (-1))), ZG, (u2 (u2 (u2 (u2 (u2 (u2 (u2 (u2 (u2 PS_2 12 0 (.ref 13)) 12 1 (.ref 14)) 12 2 (.ref 15)) 12 3 (.ref 16)) 12 4 (.ref 17)) 12 5 (.ref 18)) 12 6 (.ref 19)) 12 7 (.ref 20)) 12 8 (.ref 21))) 119 [.ref 12, .int 2] [] 22 _
  refine go_blk (pc2 := 122) (L2 := [.ref 12, .int 3]) (st2 := []) (M2 := ((u2 (u2 (u2 (u2 (u2 (u2 (u2 MA_2 12 9 0) 13 5 ((MA_2 13 5) + 1)) 14 5 ((MA_2 14 5) + (-1))) 13 6 ((MA_2 13 6) + 1)) 15 6 ((MA_2 15 6) + (-1))) 14 7 ((MA_2 14 7) + 1)) 15 7 ((MA_2 15 7) + (-1))), ZG, (u2 (u2 (u2 (u2 (u2 (u2 (u2 (u2 (u2 PS_2 12 0 (.ref 13)) 12 1 (.ref 14)) 12 2 (.ref 15)) 12 3 (.ref 16)) 12 4 (.ref 17)) 12 5 (.ref 18)) 12 6 (.ref 19)) 12 7 (.ref 20)) 12 8 (.ref 21)))) (hs2 := []) (C := True) [(.iinc 1 1, 0, 0)] [] (by decide +kernel) rfl trivial ?_
  refine go_goto (off := -34) 88 (by decide +kernel) (by decide) ?_
  refine go_blk (pc2 := 90) (L2 := [.ref 12, .int 3]) (st2 := [.int 3, .int 3]) (M2 := ((u2 (u2 (u2 (u2 (u2 (u2 (u2 MA_2 12 9 0) 13 5 ((MA_2 13 5) + 1)) 14 5 ((MA_2 14 5) + (-1))) 13 6 ((MA_2 13 6) + 1)) 15 6 ((MA_2 15 6) + (-1))) 14 7 ((MA_2 14 7) + 1)) 15 7 ((MA_2 15 7) + (-1))), ZG, (u2 (u2 (u2 (u2 (u2 (u2 (u2 (u2 (u2 PS_2 12 0 (.ref 13)) 12 1 (.ref 14)) 12 2 (.ref 15)) 12 3 (.ref 16)) 12 4 (.ref 17)) 12 5 (.ref 18)) 12 6 (.ref 19)) 12 7 (.ref 20)) 12 8 (.ref 21)))) (hs2 := []) (C := True) [(.iload_n 1, 0, 0), (.iconst 3, 0, 0)] [] (by decide +kernel) rfl trivial ?_
  refine go_cmp (cnd := .ge) (off := 35) 125 (by decide +kernel) (by decide) (fun _ => ?_) (fun (h : ¬ 3 ≤ (3 : Int32)) => absurd h (by decide))
  refine go_blk (pc2 := 129) (L2 := [.ref 12, .int 0]) (st2 := [.int 3, .int 0]) (M2 := ((u2 (u2 (u2 (u2 (u2 (u2 (u2 MA_2 12 9 0) 13 5 ((MA_2 13 5) + 1)) 14 5 ((MA_2 14 5) + (-1))) 13 6 ((MA_2 13 6) + 1)) 15 6 ((MA_2 15 6) + (-1))) 14 7 ((MA_2 14 7) + 1)) 15 7 ((MA_2 15 7) + (-1))), ZG, (u2 (u2 (u2 (u2 (u2 (u2 (u2 (u2 (u2 PS_2 12 0 (.ref 13)) 12 1 (.ref 14)) 12 2 (.ref 15)) 12 3 (.ref 16)) 12 4 (.ref 17)) 12 5 (.ref 18)) 12 6 (.ref 19)) 12 7 (.ref 20)) 12 8 (.ref 21)))) (hs2 := []) (C := True) [(.iconst 0, 0, 0), (.istore_n 1, 0, 0), (.iload_n 1, 0, 0), (.iconst 3, 0, 0)] [] (by decide +kernel) rfl trivial ?_
  refine go_cmp (cnd := .ge) (off := 63) 192 (by decide +kernel) (by decide) (fun (h : 3 ≤ (0 : Int32)) => absurd h (by decide)) (fun _ => ?_)
  refine go_blk (pc2 := 141) (L2 := [.ref 12, .int 0]) (st2 := [.int 1, .int 0, .int 8, .ref 12]) (M2 := ((u2 (u2 (u2 (u2 (u2 (u2 (u2 MA_2 12 9 0) 13 5 ((MA_2 13 5) + 1)) 14 5 ((MA_2 14 5) + (-1))) 13 6 ((MA_2 13 6) + 1)) 15 6 ((MA_2 15 6) + (-1))) 14 7 ((MA_2 14 7) + 1)) 15 7 ((MA_2 15 7) + (-1))), ZG, (u2 (u2 (u2 (u2 (u2 (u2 (u2 (u2 (u2 PS_2 12 0 (.ref 13)) 12 1 (.ref 14)) 12 2 (.ref 15)) 12 3 (.ref 16)) 12 4 (.ref 17)) 12 5 (.ref 18)) 12 6 (.ref 19)) 12 7 (.ref 20)) 12 8 (.ref 21)))) (hs2 := []) (C := True) [(.aload_n 0, 0, 0), (.bipush 8, 0, 0), (.iconst 2, 0, 0), (.iload_n 1, 0, 0), (.imul, 0, 0), (.iadd, 0, 0), (.iload_n 1, 0, 0), (.iconst 1, 0, 0)] [] (by decide +kernel) rfl trivial ?_
  refine go_call (Y2 := mX3_addTo) (n2 := 22) (st := []) [.ref 12] [.int 8, .int 0, .int 1] ck_3_46 cwX3_addTo rfl (by decide +kernel) rfl (fun h => absurd h (by decide)) (fun _ => ⟨12, rfl, by decide, rfl⟩) (Nat.le_of_ble_eq_true rfl) (Or.inl rfl) (fun _ _ _ h => h) (s_X3_addTo0 l (u2 (u2 (u2 (u2 (u2 (u2 (u2 MA_2 12 9 0) 13 5 ((MA_2 13 5) + 1)) 14 5 ((MA_2 14 5) + (-1))) 13 6 ((MA_2 13 6) + 1)) 15 6 ((MA_2 15 6) + (-1))) 14 7 ((MA_2 14 7) + 1)) 15 7 ((MA_2 15 7) + (-1))) ZG 8 (by decide) 1) (fun v M2 hp7 => ?_)
  obtain ⟨rfl, rfl⟩ := hp7
  show Go l ro0 mX3_init 22 ((u2 (u2 (u2 (u2 (u2 (u2 (u2 (u2 MA_2 12 9 0) 13 5 ((MA_2 13 5) + 1)) 14 5 ((MA_2 14 5) + (-1))) 13 6 ((MA_2 13 6) + 1)) 15 6 ((MA_2 15 6) + (-1))) 14 7 ((MA_2 14 7) + 1)) 15 7 ((MA_2 15 7) + (-1))) 13 8 ((MA_2 13 8) + 1)), ZG, (u2 (u2 (u2 (u2 (u2 (u2 (u2 (u2 (u2 PS_2 12 0 (.ref 13)) 12 1 (.ref 14)) 12 2 (.ref 15)) 12 3 (.ref 16)) 12 4 (.ref 17)) 12 5 (.ref 18)) 12 6 (.ref 19)) 12 7 (.ref 20)) 12 8 (.ref 21))) 144 [.ref 12, .int 0] [] 22 _
  refine go_blk (pc2 := 155) (L2 := [.ref 12, .int 0]) (st2 := [.int 1, .int 0, .int 9, .ref 12]) (M2 := ((u2 (u2 (u2 (u2 (u2 (u2 (u2 (u2 MA_2 12 9 0) 13 5 ((MA_2 13 5) + 1)) 14 5 ((MA_2 14 5) + (-1))) 13 6 ((MA_2 13 6) + 1)) 15 6 ((MA_2 15 6) + (-1))) 14 7 ((MA_2 14 7) + 1)) 15 7 ((MA_2 15 7) + (-1))) 13 8 ((MA_2 13 8) + 1)), ZG, (u2 (u2 (u2 (u2 (u2 (u2 (u2 (u2 (u2 PS_2 12 0 (.ref 13)) 12 1 (.ref 14)) 12 2 (.ref 15)) 12 3 (.ref 16)) 12 4 (.ref 17)) 12 5 (.ref 18)) 12 6 (.ref 19)) 12 7 (.ref 20)) 12 8 (.ref 21)))) (hs2 := []) (C := True) [(.aload_n 0, 0, 0), (.bipush 8, 0, 0), (.iconst 2, 0, 0), (.iload_n 1, 0, 0), (.imul, 0, 0), (.iadd, 0, 0), (.iconst 1, 0, 0), (.iadd, 0, 0), (.iload_n 1, 0, 0), (.iconst 1, 0, 0)] [] (by decide +kernel) rfl trivial ?_
  refine go_call (Y2 := mX3_addTo) (n2 := 22) (st := []) [.ref 12] [.int 9, .int 0, .int 1] ck_3_46 cwX3_addTo rfl (by decide +kernel) rfl (fun h => absurd h (by decide)) (fun _ => ⟨12, rfl, by decide, rfl⟩) (Nat.le_of_ble_eq_true rfl) (Or.inl rfl) (fun _ _ _ h => h) (s_X3_addTo0 l (u2 (u2 (u2 (u2 (u2 (u2 (u2 (u2 MA_2 12 9 0) 13 5 ((MA_2 13 5) + 1)) 14 5 ((MA_2 14 5) + (-1))) 13 6 ((MA_2 13 6) + 1)) 15 6 ((MA_2 15 6) + (-1))) 14 7 ((MA_2 14 7) + 1)) 15 7 ((MA_2 15 7) + (-1))) 13 8 ((MA_2 13 8) + 1)) ZG 9 (by decide) 1) (fun v M2 hp8 => ?_)
  obtain ⟨rfl, rfl⟩ := hp8
  show Go l ro0 mX3_init 22 ((u2 (u2 (u2 (u2 (u2 (u2 (u2 (u2 (u2 MA_2 12 9 0) 13 5 ((MA_2 13 5) + 1)) 14 5 ((MA_2 14 5) + (-1))) 13 6 ((MA_2 13 6) + 1)) 15 6 ((MA_2 15 6) + (-1))) 14 7 ((MA_2 14 7) + 1)) 15 7 ((MA_2 15 7) + (-1))) 13 8 ((MA_2 13 8) + 1)) 13 9 ((MA_2 13 9) + 1)), ZG, (u2 (u2 (u2 (u2 (u2 (u2 (u2 (u2 (u2 PS_2 12 0 (.ref 13)) 12 1 (.ref 14)) 12 2 (.ref 15)) 12 3 (.ref 16)) 12 4 (.ref 17)) 12 5 (.ref 18)) 12 6 (.ref 19)) 12 7 (.ref 20)) 12 8 (.ref 21))) 158 [.ref 12, .int 0] [] 22 _
  refine go_blk (pc2 := 189) (L2 := [.ref 12, .int 1]) (st2 := []) (M2 := ((u2 (u2 (u2 (u2 (u2 (u2 (u2 (u2 (u2 (u2 (u2 MA_2 12 9 0) 13 5 ((MA_2 13 5) + 1)) 14 5 ((MA_2 14 5) + (-1))) 13 6 ((MA_2 13 6) + 1)) 15 6 ((MA_2 15 6) + (-1))) 14 7 ((MA_2 14 7) + 1)) 15 7 ((MA_2 15 7) + (-1))) 13 8 ((MA_2 13 8) + 1)) 13 9 ((MA_2 13 9) + 1)) 16 8 20) 16 9 (-20)), ZG, (u2 (u2 (u2 (u2 (u2 (u2 (u2 (u2 (u2 PS_2 12 0 (.ref 13)) 12 1 (.ref 14)) 12 2 (.ref 15)) 12 3 (.ref 16)) 12 4 (.ref 17)) 12 5 (.ref 18)) 12 6 (.ref 19)) 12 7 (.ref 20)) 12 8 (.ref 21)))) (hs2 := []) (C := (8 = nI 8 ∧ 8 < 14) ∧ (9 = nI 9 ∧ 9 < 14) ∧ True) [(.aload_n 0, 0, 0), (.getfield 21, 3, 3), (.bipush 8, 0, 0), (.iconst 2, 0, 0), (.iload_n 1, 0, 0), (.imul, 0, 0), (.iadd, 0, 0), (.bipush 20, 0, 0), (.iastore, 0, 0), (.aload_n 0, 0, 0), (.getfield 21, 3, 3), (.bipush 8, 0, 0), (.iconst 2, 0, 0), (.iload_n 1, 0, 0), (.imul, 0, 0), (.iadd, 0, 0), (.iconst 1, 0, 0), (.iadd, 0, 0), (.bipush (-20), 0, 0), (.iastore, 0, 0), (.iinc 1 1, 0, 0)] [8, 9] (by decide +kernel) rfl ⟨⟨rfl, by decide⟩, ⟨rfl, by decide⟩, trivial⟩ ?_
  refine go_goto (off := -62) 127 (by decide +kernel) (by decide) ?_
  refine go_blk (pc2 := 129) (L2 := [.ref 12, .int 1]) (st2 := [.int 3, .int 1]) (M2 := ((u2 (u2 (u2 (u2 (u2 (u2 (u2 (u2 (u2 (u2 (u2 MA_2 12 9 0) 13 5 ((MA_2 13 5) + 1)) 14 5 ((MA_2 14 5) + (-1))) 13 6 ((MA_2 13 6) + 1)) 15 6 ((MA_2 15 6) + (-1))) 14 7 ((MA_2 14 7) + 1)) 15 7 ((MA_2 15 7) + (-1))) 13 8 ((MA_2 13 8) + 1)) 13 9 ((MA_2 13 9) + 1)) 16 8 20) 16 9 (-20)), ZG, (u2 (u2 (u2 (u2 (u2 (u2 (u2 (u2 (u2 PS_2 12 0 (.ref 13)) 12 1 (.ref 14)) 12 2 (.ref 15)) 12 3 (.ref 16)) 12 4 (.ref 17)) 12 5 (.ref 18)) 12 6 (.ref 19)) 12 7 (.ref 20)) 12 8 (.ref 21)))) (hs2 := []) (C := True) [(.iload_n 1, 0, 0), (.iconst 3, 0, 0)] [] (by decide +kernel) rfl trivial ?_
  refine go_cmp (cnd := .ge) (off := 63) 192 (by decide +kernel) (by decide) (fun (h : 3 ≤ (1 : Int32)) => absurd h (by decide)) (fun _ => ?_)
  refine go_blk (pc2 := 141) (L2 := [.ref 12, .int 1]) (st2 := [.int 1, .int 1, .int 10, .ref 12]) (M2 := ((u2 (u2 (u2 (u2 (u2 (u2 (u2 (u2 (u2 (u2 (u2 MA_2 12 9 0) 13 5 ((MA_2 13 5) + 1)) 14 5 ((MA_2 14 5) + (-1))) 13 6 ((MA_2 13 6) + 1)) 15 6 ((MA_2 15 6) + (-1))) 14 7 ((MA_2 14 7) + 1)) 15 7 ((MA_2 15 7) + (-1))) 13 8 ((MA_2 13 8) + 1)) 13 9 ((MA_2 13 9) + 1)) 16 8 20) 16 9 (-20)), ZG, (u2 (u2 (u2 (u2 (u2 (u2 (u2 (u2 (u2 PS_2 12 0 (.ref 13)) 12 1 (.ref 14)) 12 2 (.ref 15)) 12 3 (.ref 16)) 12 4 (.ref 17)) 12 5 (.ref 18)) 12 6 (.ref 19)) 12 7 (.ref 20)) 12 8 (.ref 21)))) (hs2 := []) (C := True) [(.aload_n 0, 0, 0), (.bipush 8, 0, 0), (.iconst 2, 0, 0), (.iload_n 1, 0, 0), (.imul, 0, 0), (.iadd, 0, 0), (.iload_n 1, 0, 0), (.iconst 1, 0, 0)] [] (by decide +kernel) rfl trivial ?_
  refine go_call (Y2 := mX3_addTo) (n2 := 22) (st := []) [.ref 12] [.int 10, .int 1, .int 1] ck_3_46 cwX3_addTo rfl (by decide +kernel) rfl (fun h => absurd h (by decide)) (fun _ => ⟨12, rfl, by decide, rfl⟩) (Nat.le_of_ble_eq_true rfl) (Or.inl rfl) (fun _ _ _ h => h) (s_X3_addTo1 l (u2 (u2 (u2 (u2 (u2 (u2 (u2 (u2 (u2 (u2 (u2 MA_2 12 9 0) 13 5 ((MA_2 13 5) + 1)) 14 5 ((MA_2 14 5) + (-1))) 13 6 ((MA_2 13 6) + 1)) 15 6 ((MA_2 15 6) + (-1))) 14 7 ((MA_2 14 7) + 1)) 15 7 ((MA_2 15 7) + (-1))) 13 8 ((MA_2 13 8) + 1)) 13 9 ((MA_2 13 9) + 1)) 16 8 20) 16 9 (-20)) ZG 10 (by decide) 1) (fun v M2 hp9 => ?_)
  obtain ⟨rfl, rfl⟩ := hp9
  show Go l ro0 mX3_init 22 ((u2 (u2 (u2 (u2 (u2 (u2 (u2 (u2 (u2 (u2 (u2 (u2 MA_2 12 9 0) 13 5 ((MA_2 13 5) + 1)) 14 5 ((MA_2 14 5) + (-1))) 13 6 ((MA_2 13 6) + 1)) 15 6 ((MA_2 15 6) + (-1))) 14 7 ((MA_2 14 7) + 1)) 15 7 ((MA_2 15 7) + (-1))) 13 8 ((MA_2 13 8) + 1)) 13 9 ((MA_2 13 9) + 1)) 16 8 20) 16 9 (-20)) 14 10 ((MA_2 14 10) + 1)), ZG, (u2 (u2 (u2 (u2 (u2 (u2 (u2 (u2 (u2 PS_2 12 0 (.ref 13)) 12 1 (.ref 14)) 12 2 (.ref 15)) 12 3 (.ref 16)) 12 4 (.ref 17)) 12 5 (.ref 18)) 12 6 (.ref 19)) 12 7 (.ref 20)) 12 8 (.ref 21))) 144 [.ref 12, .int 1] [] 22 _
  refine go_blk (pc2 := 155) (L2 := [.ref 12, .int 1]) (st2 := [.int 1, .int 1, .int 11, .ref 12]) (M2 := ((u2 (u2 (u2 (u2 (u2 (u2 (u2 (u2 (u2 (u2 (u2 (u2 MA_2 12 9 0) 13 5 ((MA_2 13 5) + 1)) 14 5 ((MA_2 14 5) + (-1))) 13 6 ((MA_2 13 6) + 1)) 15 6 ((MA_2 15 6) + (-1))) 14 7 ((MA_2 14 7) + 1)) 15 7 ((MA_2 15 7) + (-1))) 13 8 ((MA_2 13 8) + 1)) 13 9 ((MA_2 13 9) + 1)) 16 8 20) 16 9 (-20)) 14 10 ((MA_2 14 10) + 1)), ZG, (u2 (u2 (u2 (u2 (u2 (u2 (u2 (u2 (u2 PS_2 12 0 (.ref 13)) 12 1 (.ref 14)) 12 2 (.ref 15)) 12 3 (.ref 16)) 12 4 (.ref 17)) 12 5 (.ref 18)) 12 6 (.ref 19)) 12 7 (.ref 20)) 12 8 (.ref 21)))) (hs2 := []) (C := True) [(.aload_n 0, 0, 0), (.bipush 8, 0, 0), (.iconst 2, 0, 0), (.iload_n 1, 0, 0), (.imul, 0, 0), (.iadd, 0, 0), (.iconst 1, 0, 0), (.iadd, 0, 0), (.iload_n 1, 0, 0), (.iconst 1, 0, 0)] [] (by decide +kernel) rfl trivial ?_
  refine go_call (Y2 := mX3_addTo) (n2 := 22) (st := []) [.ref 12] [.int 11, .int 1, .int 1] ck_3_46 cwX3_addTo rfl (by decide +kernel) rfl (fun h => absurd h (by decide)) (fun _ => ⟨12, rfl, by decide, rfl⟩) (Nat.le_of_ble_eq_true rfl) (Or.inl rfl) (fun _ _ _ h => h) (s_X3_addTo1 l (u2 (u2 (u2 (u2 (u2 (u2 (u2 (u2 (u2 (u2 (u2 (u2 MA_2 12 9 0) 13 5 ((MA_2 13 5) + 1)) 14 5 ((MA_2 14 5) + (-1))) 13 6 ((MA_2 13 6) + 1)) 15 6 ((MA_2 15 6) + (-1))) 14 7 ((MA_2 14 7) + 1)) 15 7 ((MA_2 15 7) + (-1))) 13 8 ((MA_2 13 8) + 1)) 13 9 ((MA_2 13 9) + 1)) 16 8 20) 16 9 (-20)) 14 10 ((MA_2 14 10) + 1)) ZG 11 (by decide) 1) (fun v M2 hp10 => ?_)
  obtain ⟨rfl, rfl⟩ := hp10
  show Go l ro0 mX3_init 22 ((u2 (u2 (u2 (u2 (u2 (u2 (u2 (u2 (u2 (u2 (u2 (u2 (u2 MA_2 12 9 0) 13 5 ((MA_2 13 5) + 1)) 14 5 ((MA_2 14 5) + (-1))) 13 6 ((MA_2 13 6) + 1)) 15 6 ((MA_2 15 6) + (-1))) 14 7 ((MA_2 14 7) + 1)) 15 7 ((MA_2 15 7) + (-1))) 13 8 ((MA_2 13 8) + 1)) 13 9 ((MA_2 13 9) + 1)) 16 8 20) 16 9 (-20)) 14 10 ((MA_2 14 10) + 1)) 14 11 ((MA_2 14 11) + 1)), ZG, (u2 (u2 (u2 (u2 (u2 (u2 (u2 (u2 (u2 PS_2 12 0 (.ref 13)) 12 1 (.ref 14)) 12 2 (.ref 15)) 12 3 (.ref 16)) 12 4 (.ref 17)) 12 5 (.ref 18)) 12 6 (.ref 19)) 12 7 (.ref 20)) 12 8 (.ref 21))) 158 [.ref 12, .int 1] [] 22 _
  refine go_blk (pc2 := 189) (L2 := [.ref 12, .int 2]) (st2 := []) (M2 := ((u2 (u2 (u2 (u2 (u2 (u2 (u2 (u2 (u2 (u2 (u2 (u2 (u2 (u2 (u2 MA_2 12 9 0) 13 5 ((MA_2 13 5) + 1)) 14 5 ((MA_2 14 5) + (-1))) 13 6 ((MA_2 13 6) + 1)) 15 6 ((MA_2 15 6) + (-1))) 14 7 ((MA_2 14 7) + 1)) 15 7 ((MA_2 15 7) + (-1))) 13 8 ((MA_2 13 8) + 1)) 13 9 ((MA_2 13 9) + 1)) 16 8 20) 16 9 (-20)) 14 10 ((MA_2 14 10) + 1)) 14 11 ((MA_2 14 11) + 1)) 16 10 20) 16 11 (-20)), ZG, (u2 (u2 (u2 (u2 (u2 (u2 (u2 (u2 (u2 PS_2 12 0 (.ref 13)) 12 1 (.ref 14)) 12 2 (.ref 15)) 12 3 (.ref 16)) 12 4 (.ref 17)) 12 5 (.ref 18)) 12 6 (.ref 19)) 12 7 (.ref 20)) 12 8 (.ref 21)))) (hs2 := []) (C := (10 = nI 10 ∧ 10 < 14) ∧ (11 = nI 11 ∧ 11 < 14) ∧ True) [(.aload_n 0, 0, 0), (.getfield 21, 3, 3), (.bipush 8, 0, 0), (.iconst 2, 0, 0), (.iload_n 1, 0, 0), (.imul, 0, 0), (.iadd, 0, 0), (.bipush 20, 0, 0), (.iastore, 0, 0), (.aload_n 0, 0, 0), (.getfield 21, 3, 3), (.bipush 8, 0, 0), (.iconst 2, 0, 0), (.iload_n 1, 0, 0), (.imul, 0, 0), (.iadd, 0, 0), (.iconst 1, 0, 0), (.iadd, 0, 0), (.bipush (-20), 0, 0), (.iastore, 0, 0), (.iinc 1 1, 0, 0)] [10, 11] (by decide +kernel) rfl ⟨⟨rfl, by decide⟩, ⟨rfl, by decide⟩, trivial⟩ ?_
  refine go_goto (off := -62) 127 (by decide +kernel) (by decide) ?_
  refine go_blk (pc2 := 129) (L2 := [.ref 12, .int 2]) (st2 := [.int 3, .int 2]) (M2 := ((u2 (u2 (u2 (u2 (u2 (u2 (u2 (u2 (u2 (u2 (u2 (u2 (u2 (u2 (u2 MA_2 12 9 0) 13 5 ((MA_2 13 5) + 1)) 14 5 ((MA_2 14 5) + (-1))) 13 6 ((MA_2 13 6) + 1)) 15 6 ((MA_2 15 6) + (-1))) 14 7 ((MA_2 14 7) + 1)) 15 7 ((MA_2 15 7) + (-1))) 13 8 ((MA_2 13 8) + 1)) 13 9 ((MA_2 13 9) + 1)) 16 8 20) 16 9 (-20)) 14 10 ((MA_2 14 10) + 1)) 14 11 ((MA_2 14 11) + 1)) 16 10 20) 16 11 (-20)), ZG, (u2 (u2 (u2 (u2 (u2 (u2 (u2 (u2 (u2 PS_2 12 0 (.ref 13)) 12 1 (.ref 14)) 12 2 (.ref 15)) 12 3 (.ref 16)) 12 4 (.ref 17)) 12 5 (.ref 18)) 12 6 (.ref 19)) 12 7 (.ref 20)) 12 8 (.ref 21)))) (hs2 := []) (C := True) [(.iload_n 1, 0, 0), (.iconst 3, 0, 0)] [] (by decide +kernel) rfl trivial ?_
  refine go_cmp (cnd := .ge) (off := 63) 192 (by decide +kernel) (by decide) (fun (h : 3 ≤ (2 : Int32)) => absurd h (by decide)) (fun _ => ?_)
  refine go_blk (pc2 := 141) (L2 := [.ref 12, .int 2]) (st2 := [.int 1, .int 2, .int 12, .ref 12]) (M2 := ((u2 (u2 (u2 (u2 (u2 (u2 (u2 (u2 (u2 (u2 (u2 (u2 (u2 (u2 (u2 MA_2 12 9 0) 13 5 ((MA_2 13 5) + 1)) 14 5 ((MA_2 14 5) + (-1))) 13 6 ((MA_2 13 6) + 1)) 15 6 ((MA_2 15 6) + (-1))) 14 7 ((MA_2 14 7) + 1)) 15 7 ((MA_2 15 7) + (-1))) 13 8 ((MA_2 13 8) + 1)) 13 9 ((MA_2 13 9) + 1)) 16 8 20) 16 9 (-20)) 14 10 ((MA_2 14 10) + 1)) 14 11 ((MA_2 14 11) + 1)) 16 10 20) 16 11 (-20)), ZG, (u2 (u2 (u2 (u2 (u2 (u2 (u2 (u2 (u2 PS_2 12 0 (.ref 13)) 12 1 (.ref 14)) 12 2 (.ref 15)) 12 3 (.ref 16)) 12 4 (.ref 17)) 12 5 (.ref 18)) 12 6 (.ref 19)) 12 7 (.ref 20)) 12 8 (.ref 21)))) (hs2 := []) (C := True) [(.aload_n 0, 0, 0), (.bipush 8, 0, 0), (.iconst 2, 0, 0), (.iload_n 1, 0, 0), (.imul, 0, 0), (.iadd, 0, 0), (.iload_n 1, 0, 0), (.iconst 1, 0, 0)] [] (by decide +kernel) rfl trivial ?_
  refine go_call (Y2 := mX3_addTo) (n2 := 22) (st := []) [.ref 12] [.int 12, .int 2, .int 1] ck_3_46 cwX3_addTo rfl (by decide +kernel) rfl (fun h => absurd h (by decide)) (fun _ => ⟨12, rfl, by decide, rfl⟩) (Nat.le_of_ble_eq_true rfl) (Or.inl rfl) (fun _ _ _ h => h) (s_X3_addTo2 l (u2 (u2 (u2 (u2 (u2 (u2 (u2 (u2 (u2 (u2 (u2 (u2 (u2 (u2 (u2 MA_2 12 9 0) 13 5 ((MA_2 13 5) + 1)) 14 5 ((MA_2 14 5) + (-1))) 13 6 ((MA_2 13 6) + 1)) 15 6 ((MA_2 15 6) + (-1))) 14 7 ((MA_2 14 7) + 1)) 15 7 ((MA_2 15 7) + (-1))) 13 8 ((MA_2 13 8) + 1)) 13 9 ((MA_2 13 9) + 1)) 16 8 20) 16 9 (-20)) 14 10 ((MA_2 14 10) + 1)) 14 11 ((MA_2 14 11) + 1)) 16 10 20) 16 11 (-20)) ZG 12 (by decide) 1) (fun v M2 hp11 => ?_)
  obtain ⟨rfl, rfl⟩ := hp11
  show Go l ro0 mX3_init 22 ((u2 (u2 (u2 (u2 (u2 (u2 (u2 (u2 (u2 (u2 (u2 (u2 (u2 (u2 (u2 (u2 MA_2 12 9 0) 13 5 ((MA_2 13 5) + 1)) 14 5 ((MA_2 14 5) + (-1))) 13 6 ((MA_2 13 6) + 1)) 15 6 ((MA_2 15 6) + (-1))) 14 7 ((MA_2 14 7) + 1)) 15 7 ((MA_2 15 7) + (-1))) 13 8 ((MA_2 13 8) + 1)) 13 9 ((MA_2 13 9) + 1)) 16 8 20) 16 9 (-20)) 14 10 ((MA_2 14 10) + 1)) 14 11 ((MA_2 14 11) + 1)) 16 10 20) 16 11 (-20)) 15 12 ((MA_2 15 12) + 1)), ZG, (u2 (u2 (u2 (u2 (u2 (u2 (u2 (u2 (u2 PS_2 12 0 (.ref 13)) 12 1 (.ref 14)) 12 2 (.ref 15)) 12 3 (.ref 16)) 12 4 (.ref 17)) 12 5 (.ref 18)) 12 6 (.ref 19)) 12 7 (.ref 20)) 12 8 (.ref 21))) 144 [.ref 12, .int 2] [] 22 _
  refine go_blk (pc2 := 155) (L2 := [.ref 12, .int 2]) (st2 := [.int 1, .int 2, .int 13, .ref 12]) (M2 := ((u2 (u2 (u2 (u2 (u2 (u2 (u2 (u2 (u2 (u2 (u2 (u2 (u2 (u2 (u2 (u2 MA_2 12 9 0) 13 5 ((MA_2 13 5) + 1)) 14 5 ((MA_2 14 5) + (-1))) 13 6 ((MA_2 13 6) + 1)) 15 6 ((MA_2 15 6) + (-1))) 14 7 ((MA_2 14 7) + 1)) 15 7 ((MA_2 15 7) + (-1))) 13 8 ((MA_2 13 8) + 1)) 13 9 ((MA_2 13 9) + 1)) 16 8 20) 16 9 (-20)) 14 10 ((MA_2 14 10) + 1)) 14 11 ((MA_2 14 11) + 1)) 16 10 20) 16 11 (-20)) 15 12 ((MA_2 15 12) + 1)), ZG, (u2 (u2 (u2 (u2 (u2 (u2 (u2 (u2 (u2 PS_2 12 0 (.ref 13)) 12 1 (.ref 14)) 12 2 (.ref 15)) 12 3 (.ref 16)) 12 4 (.ref 17)) 12 5 (.ref 18)) 12 6 (.ref 19)) 12 7 (.ref 20)) 12 8 (.ref 21)))) (hs2 := []) (C := True) [(.aload_n 0, 0, 0), (.bipush 8, 0, 0), (.iconst 2, 0, 0), (.iload_n 1, 0, 0), (.imul, 0, 0), (.iadd, 0, 0), (.iconst 1, 0, 0), (.iadd, 0, 0), (.iload_n 1, 0, 0), (.iconst 1, 0, 0)] [] (by decide +kernel) rfl trivial ?_
  refine go_call (Y2 := mX3_addTo) (n2 := 22) (st := []) [.ref 12] [.int 13, .int 2, .int 1] ck_3_46 cwX3_addTo rfl (by decide +kernel) rfl (fun h => absurd h (by decide)) (fun _ => ⟨12, rfl, by decide, rfl⟩) (Nat.le_of_ble_eq_true rfl) (Or.inl rfl) (fun _ _ _ h => h) (s_X3_addTo2 l (u2 (u2 (u2 (u2 (u2 (u2 (u2 (u2 (u2 (u2 (u2 (u2 (u2 (u2 (u2 (u2 MA_2 12 9 0) 13 5 ((MA_2 13 5) + 1)) 14 5 ((MA_2 14 5) + (-1))) 13 6 ((MA_2 13 6) + 1)) 15 6 ((MA_2 15 6) + (-1))) 14 7 ((MA_2 14 7) + 1)) 15 7 ((MA_2 15 7) + (-1))) 13 8 ((MA_2 13 8) + 1)) 13 9 ((MA_2 13 9) + 1)) 16 8 20) 16 9 (-20)) 14 10 ((MA_2 14 10) + 1)) 14 11 ((MA_2 14 11) + 1)) 16 10 20) 16 11 (-20)) 15 12 ((MA_2 15 12) + 1)) ZG 13 (by decide) 1) (fun v M2 hp12 => ?_)
  obtain ⟨rfl, rfl⟩ := hp12
  show Go l ro0 mX3_init 22 ((u2 (u2 (u2 (u2 (u2 (u2 (u2 (u2 (u2 (u2 (u2 (u2 (u2 (u2 (u2 (u2 (u2 MA_2 12 9 0) 13 5 ((MA_2 13 5) + 1)) 14 5 ((MA_2 14 5) + (-1))) 13 6 ((MA_2 13 6) + 1)) 15 6 ((MA_2 15 6) + (-1))) 14 7 ((MA_2 14 7) + 1)) 15 7 ((MA_2 15 7) + (-1))) 13 8 ((MA_2 13 8) + 1)) 13 9 ((MA_2 13 9) + 1)) 16 8 20) 16 9 (-20)) 14 10 ((MA_2 14 10) + 1)) 14 11 ((MA_2 14 11) + 1)) 16 10 20) 16 11 (-20)) 15 12 ((MA_2 15 12) + 1)) 15 13 ((MA_2 15 13) + 1)), ZG, (u2 (u2 (u2 (u2 (u2 (u2 (u2 (u2 (u2 PS_2 12 0 (.ref 13)) 12 1 (.ref 14)) 12 2 (.ref 15)) 12 3 (.ref 16)) 12 4 (.ref 17)) 12 5 (.ref 18)) 12 6 (.ref 19)) 12 7 (.ref 20)) 12 8 (.ref 21))) 158 [.ref 12, .int 2] [] 22 _
  refine go_blk (pc2 := 189) (L2 := [.ref 12, .int 3]) (st2 := []) (M2 := ((u2 (u2 (u2 (u2 (u2 (u2 (u2 (u2 (u2 (u2 (u2 (u2 (u2 (u2 (u2 (u2 (u2 (u2 (u2 MA_2 12 9 0) 13 5 ((MA_2 13 5) + 1)) 14 5 ((MA_2 14 5) + (-1))) 13 6 ((MA_2 13 6) + 1)) 15 6 ((MA_2 15 6) + (-1))) 14 7 ((MA_2 14 7) + 1)) 15 7 ((MA_2 15 7) + (-1))) 13 8 ((MA_2 13 8) + 1)) 13 9 ((MA_2 13 9) + 1)) 16 8 20) 16 9 (-20)) 14 10 ((MA_2 14 10) + 1)) 14 11 ((MA_2 14 11) + 1)) 16 10 20) 16 11 (-20)) 15 12 ((MA_2 15 12) + 1)) 15 13 ((MA_2 15 13) + 1)) 16 12 20) 16 13 (-20)), ZG, (u2 (u2 (u2 (u2 (u2 (u2 (u2 (u2 (u2 PS_2 12 0 (.ref 13)) 12 1 (.ref 14)) 12 2 (.ref 15)) 12 3 (.ref 16)) 12 4 (.ref 17)) 12 5 (.ref 18)) 12 6 (.ref 19)) 12 7 (.ref 20)) 12 8 (.ref 21)))) (hs2 := []) (C := (12 = nI 12 ∧ 12 < 14) ∧ (13 = nI 13 ∧ 13 < 14) ∧ True) [(.aload_n 0, 0, 0), (.getfield 21, 3, 3), (.bipush 8, 0, 0), (.iconst 2, 0, 0), (.iload_n 1, 0, 0), (.imul, 0, 0), (.iadd, 0, 0), (.bipush 20, 0, 0), (.iastore, 0, 0), (.aload_n 0, 0, 0), (.getfield 21, 3, 3), (.bipush 8, 0, 0), (.iconst 2, 0, 0), (.iload_n 1, 0, 0), (.imul, 0, 0), (.iadd, 0, 0), (.iconst 1, 0, 0), (.iadd, 0, 0), (.bipush (-20), 0, 0), (.iastore, 0, 0), (.iinc 1 1, 0, 0)] [12, 13] (by decide +kernel) rfl ⟨⟨rfl, by decide⟩, ⟨rfl, by decide⟩, trivial⟩ ?_
  refine go_goto (off := -62) 127 (by decide +kernel) (by decide) ?_
  refine go_blk (pc2 := 129) (L2 := [.ref 12, .int 3]) (st2 := [.int 3, .int 3]) (M2 := ((u2 (u2 (u2 (u2 (u2 (u2 (u2 (u2 (u2 (u2 (u2 (u2 (u2 (u2 (u2 (u2 (u2 (u2 (u2 MA_2 12 9 0) 13 5 ((MA_2 13 5) + 1)) 14 5 ((MA_2 14 5) + (-1))) 13 6 ((MA_2 13 6) + 1)) 15 6 ((MA_2 15 6) + (-1))) 14 7 ((MA_2 14 7) + 1)) 15 7 ((MA_2 15 7) + (-1))) 13 8 ((MA_2 13 8) + 1)) 13 9 ((MA_2 13 9) + 1)) 16 8 20) 16 9 (-20)) 14 10 ((MA_2 14 10) + 1)) 14 11 ((MA_2 14 11) + 1)) 16 10 20) 16 11 (-20)) 15 12 ((MA_2 15 12) + 1)) 15 13 ((MA_2 15 13) + 1)) 16 12 20) 16 13 (-20)), ZG, (u2 (u2 (u2 (u2 (u2 (u2 (u2 (u2 (u2 PS_2 12 0 (.ref 13)) 12 1 (.ref 14)) 12 2 (.ref 15)) 12 3 (.ref 16)) 12 4 (.ref 17)) 12 5 (.ref 18)) 12 6 (.ref 19)) 12 7 (.ref 20)) 12 8 (.ref 21)))) (hs2 := []) (C := True) [(.iload_n 1, 0, 0), (.iconst 3, 0, 0)] [] (by decide +kernel) rfl trivial ?_
  refine go_cmp (cnd := .ge) (off := 63) 192 (by decide +kernel) (by decide) (fun _ => ?_) (fun (h : ¬ 3 ≤ (3 : Int32)) => absurd h (by decide))
  exact go_retv (by decide +kernel) rfl (⟨rfl, rfl⟩)
def PS_3b : Nat → Nat → Value := (u2 MP_3 0 2 (.ref 12))
def MP_1 : Nat → Nat → Value := (u2 (u2 (u2 PS_3b 22 0 (.ref 23)) 22 1 (.ref 24)) 22 2 (.ref 25))
set_option maxRecDepth 100000 in
set_option maxHeartbeats 4000000 in
theorem s_X1_init (l : Launch) : Sem l mX1_init [.ref 22] 23 (MA_3, ZG, PS_3b) 26 (pm (MA_3, ZG, MP_1)) := by
  refine sem_of_go (by decide) rfl (by decide) (by decide) rfl (Nat.le_of_ble_eq_true rfl) ?_
  show Go l ro0 mX1_init 23 (MA_3, ZG, PS_3b) 0 [.ref 22] [] 26 (pm (MA_3, ZG, MP_1))
  refine go_blk (pc2 := 1) (L2 := [.ref 22]) (st2 := [.ref 22]) (M2 := (MA_3, ZG, PS_3b)) (hs2 := []) (C := True) [(.aload_n 0, 0, 0)] [] (by decide +kernel) rfl trivial ?_
  refine go_obj (idx := 3) (p1 := 137) (by decide +kernel) (by decide +kernel) ⟨by decide, Nat.le_of_ble_eq_true rfl⟩ ?_
  refine go_blk (pc2 := 8) (L2 := [.ref 22]) (st2 := [.int 160, .ref 22]) (M2 := (MA_3, ZG, PS_3b)) (hs2 := []) (C := True) [(.aload_n 0, 0, 0), (.sipush 160, 0, 0)] [] (by decide +kernel) rfl trivial ?_
  refine go_newarray (b := true) (N := 160) (by decide +kernel) rfl rfl (by decide) (by decide) (by decide +kernel) rfl ?_
  rw [zer_id (n := 23) (M := (MA_3, ZG, PS_3b)) (fun _ => rfl) (fun _ => rfl) (fun _ => rfl)]
  refine go_blk (pc2 := 17) (L2 := [.ref 22]) (st2 := [.int 160, .ref 22]) (M2 := (MA_3, ZG, (u2 PS_3b 22 0 (.ref 23)))) (hs2 := []) (C := True) [(.putfield 9, 1, 0), (.aload_n 0, 0, 0), (.sipush 160, 0, 0)] [] (by decide +kernel) rfl trivial ?_
  refine go_newarray (b := false) (N := 160) (by decide +kernel) rfl rfl (by decide) (by decide) (by decide +kernel) rfl ?_
  rw [zer_id (n := 24) (M := (MA_3, ZG, (u2 PS_3b 22 0 (.ref 23)))) (fun _ => rfl) (fun _ => rfl) (fun _ => rfl)]
  refine go_blk (pc2 := 26) (L2 := [.ref 22]) (st2 := [.int 160, .ref 22]) (M2 := (MA_3, ZG, (u2 (u2 PS_3b 22 0 (.ref 23)) 22 1 (.ref 24)))) (hs2 := []) (C := True) [(.putfield 15, 1, 1), (.aload_n 0, 0, 0), (.sipush 160, 0, 0)] [] (by decide +kernel) rfl trivial ?_
  refine go_newarray (b := false) (N := 160) (by decide +kernel) rfl rfl (by decide) (by decide) (by decide +kernel) rfl ?_
  rw [zer_id (n := 25) (M := (MA_3, ZG, (u2 (u2 PS_3b 22 0 (.ref 23)) 22 1 (.ref 24)))) (fun _ => rfl) (fun _ => rfl) (fun _ => rfl)]
  refine go_blk (pc2 := 31) (L2 := [.ref 22]) (st2 := []) (M2 := (MA_3, ZG, (u2 (u2 (u2 PS_3b 22 0 (.ref 23)) 22 1 (.ref 24)) 22 2 (.ref 25)))) (hs2 := []) (C := True) [(.putfield 19, 1, 2)] [] (by decide +kernel) rfl trivial ?_
  exact go_retv (by decide +kernel) rfl (⟨rfl, rfl⟩)
def PS_1 : Nat → Nat → Value := (u2 MP_1 0 3 (.ref 22))
def MA_4 : Nat → Nat → Int32 := (u2 (u2 (u2 (u2 (u2 MA_3 26 0 0) 26 1 0) 26 2 0) 26 5 0) 26 8 0)
def MG_4 : Nat → Nat → Int64 := (u2 (u2 (u2 (u2 ZG 26 3 0) 26 4 0) 26 6 0) 26 7 0)
set_option maxRecDepth 100000 in
set_option maxHeartbeats 4000000 in
theorem s_X4_init (l : Launch) : Sem l mX4_init [.ref 26] 27 (MA_3, ZG, PS_1) 27 (pm (MA_4, MG_4, PS_1)) := by
  refine sem_of_go (by decide) rfl (by decide) (by decide) rfl (Nat.le_of_ble_eq_true rfl) ?_
  show Go l ro0 mX4_init 27 (MA_3, ZG, PS_1) 0 [.ref 26] [] 27 (pm (MA_4, MG_4, PS_1))
  refine go_blk (pc2 := 1) (L2 := [.ref 26]) (st2 := [.ref 26]) (M2 := (MA_3, ZG, PS_1)) (hs2 := []) (C := True) [(.aload_n 0, 0, 0)] [] (by decide +kernel) rfl trivial ?_
  refine go_obj (idx := 1) (p1 := 154) (by decide +kernel) (by decide +kernel) ⟨by decide, Nat.le_of_ble_eq_true rfl⟩ ?_
  refine go_blk (pc2 := 49) (L2 := [.ref 26]) (st2 := []) (M2 := ((u2 (u2 (u2 (u2 (u2 MA_3 26 0 0) 26 1 0) 26 2 0) 26 5 0) 26 8 0), (u2 (u2 (u2 (u2 ZG 26 3 0) 26 4 0) 26 6 0) 26 7 0), PS_1)) (hs2 := []) (C := (0 = 0 ∨ 0 = 1) ∧ True) [(.aload_n 0, 0, 0), (.iconst 0, 0, 0), (.putfield 7, 4, 0), (.aload_n 0, 0, 0), (.iconst 0, 0, 0), (.putfield 13, 4, 1), (.aload_n 0, 0, 0), (.iconst 0, 0, 0), (.putfield 16, 4, 2), (.aload_n 0, 0, 0), (.lconst 0, 0, 0), (.putfield 19, 4, 3), (.aload_n 0, 0, 0), (.lconst 0, 0, 0), (.putfield 23, 4, 4), (.aload_n 0, 0, 0), (.iconst 0, 0, 0), (.putfield 26, 4, 5), (.aload_n 0, 0, 0), (.lconst 0, 0, 0), (.putfield 30, 4, 6), (.aload_n 0, 0, 0), (.lconst 0, 0, 0), (.putfield 33, 4, 7), (.aload_n 0, 0, 0), (.iconst 0, 0, 0), (.putfield 36, 4, 8)] [] (by decide +kernel) rfl ⟨Or.inl rfl, trivial⟩ ?_
  exact go_retv (by decide +kernel) rfl (⟨rfl, rfl⟩)
def MA_5 : Nat → Nat → Int32 := (u2 MA_4 0 5 1)
def MG_5 : Nat → Nat → Int64 := (u2 (u2 MG_4 0 6 0) 0 7 0)
def MP_5 : Nat → Nat → Value := (u2 PS_1 0 4 (.ref 26))
set_option maxRecDepth 100000 in
set_option maxHeartbeats 4000000 in
theorem s_X5_init (l : Launch) : Sem l mX5_init [.ref 0] 1 (ZA, ZG, ZP) 27 (pm (MA_5, MG_5, MP_5)) := by
  refine sem_of_go (by decide) rfl (by decide) (by decide) rfl (Nat.le_of_ble_eq_true rfl) ?_
  show Go l ro0 mX5_init 1 (ZA, ZG, ZP) 0 [.ref 0] [] 27 (pm (MA_5, MG_5, MP_5))
  refine go_blk (pc2 := 1) (L2 := [.ref 0]) (st2 := [.ref 0]) (M2 := (ZA, ZG, ZP)) (hs2 := []) (C := True) [(.aload_n 0, 0, 0)] [] (by decide +kernel) rfl trivial ?_
  refine go_obj (idx := 3) (p1 := 29) (by decide +kernel) (by decide +kernel) ⟨by decide, Nat.le_of_ble_eq_true rfl⟩ ?_
  refine go_blk (pc2 := 5) (L2 := [.ref 0]) (st2 := [.ref 0]) (M2 := (ZA, ZG, ZP)) (hs2 := []) (C := True) [(.aload_n 0, 0, 0)] [] (by decide +kernel) rfl trivial ?_
  refine go_new (idx := 9) (ci := 0) (p1 := 32) (p2 := 33) (p3 := 18) (by decide +kernel) (by decide +kernel) rfl (by decide) (by decide) (by decide +kernel) rfl ?_
  rw [zer_id (n := 1) (M := (ZA, ZG, ZP)) (fun _ => rfl) (fun _ => rfl) (fun _ => rfl)]
  refine go_blk (pc2 := 9) (L2 := [.ref 0]) (st2 := [.ref 1, .ref 1, .ref 0]) (M2 := (ZA, ZG, ZP)) (hs2 := []) (C := True) [(.dup, 0, 0)] [] (by decide +kernel) rfl trivial ?_
  refine go_call (Y2 := mX0_init) (n2 := 9) (st := [.ref 1, .ref 0]) [.ref 1] [] ck_5_11 cwX0_init rfl (by decide +kernel) rfl (fun h => absurd h (by decide)) (fun _ => ⟨1, rfl, by decide, rfl⟩) (Nat.le_of_ble_eq_true rfl) (Or.inr rfl) (fun _ _ _ h => h) (s_X0_init l) (fun v M2 hp1 => ?_)
  obtain ⟨rfl, rfl⟩ := hp1
  show Go l ro0 mX5_init 9 (MA_0, ZG, MP_0) 12 [.ref 0] [.ref 1, .ref 0] 27 _
  refine go_blk (pc2 := 16) (L2 := [.ref 0]) (st2 := [.ref 0]) (M2 := (MA_0, ZG, (u2 MP_0 0 0 (.ref 1)))) (hs2 := []) (C := True) [(.putfield 12, 5, 0), (.aload_n 0, 0, 0)] [] (by decide +kernel) rfl trivial ?_
  refine go_new (idx := 16) (ci := 2) (p1 := 68) (p2 := 69) (p3 := 19) (by decide +kernel) (by decide +kernel) rfl (by decide) (by decide) (by decide +kernel) rfl ?_
  rw [zer_id (n := 9) (M := (MA_0, ZG, (u2 MP_0 0 0 (.ref 1)))) (fun _ => rfl) (fun _ => rfl) (fun _ => rfl)]
  refine go_blk (pc2 := 20) (L2 := [.ref 0]) (st2 := [.ref 9, .ref 9, .ref 0]) (M2 := (MA_0, ZG, (u2 MP_0 0 0 (.ref 1)))) (hs2 := []) (C := True) [(.dup, 0, 0)] [] (by decide +kernel) rfl trivial ?_
  refine go_call (Y2 := mX2_init) (n2 := 12) (st := [.ref 9, .ref 0]) [.ref 9] [] ck_5_18 cwX2_init rfl (by decide +kernel) rfl (fun h => absurd h (by decide)) (fun _ => ⟨9, rfl, by decide, rfl⟩) (Nat.le_of_ble_eq_true rfl) (Or.inr rfl) (fun _ _ _ h => h) (s_X2_init l) (fun v M2 hp2 => ?_)
  obtain ⟨rfl, rfl⟩ := hp2
  show Go l ro0 mX5_init 12 (MA_2, ZG, MP_2) 23 [.ref 0] [.ref 9, .ref 0] 27 _
  refine go_blk (pc2 := 27) (L2 := [.ref 0]) (st2 := [.ref 0]) (M2 := (MA_2, ZG, (u2 MP_2 0 1 (.ref 9)))) (hs2 := []) (C := True) [(.putfield 19, 5, 1), (.aload_n 0, 0, 0)] [] (by decide +kernel) rfl trivial ?_
  refine go_new (idx := 23) (ci := 3) (p1 := 87) (p2 := 88) (p3 := 20) (by decide +kernel) (by decide +kernel) rfl (by decide) (by decide) (by decide +kernel) rfl ?_
  rw [zer_id (n := 12) (M := (MA_2, ZG, (u2 MP_2 0 1 (.ref 9)))) (fun _ => rfl) (fun _ => rfl) (fun _ => rfl)]
  refine go_blk (pc2 := 31) (L2 := [.ref 0]) (st2 := [.ref 12, .ref 12, .ref 0]) (M2 := (MA_2, ZG, (u2 MP_2 0 1 (.ref 9)))) (hs2 := []) (C := True) [(.dup, 0, 0)] [] (by decide +kernel) rfl trivial ?_
  refine go_call (Y2 := mX3_init) (n2 := 22) (st := [.ref 12, .ref 0]) [.ref 12] [] ck_5_25 cwX3_init rfl (by decide +kernel) rfl (fun h => absurd h (by decide)) (fun _ => ⟨12, rfl, by decide, rfl⟩) (Nat.le_of_ble_eq_true rfl) (Or.inr rfl) (fun _ _ _ h => h) (s_X3_init l) (fun v M2 hp3 => ?_)
  obtain ⟨rfl, rfl⟩ := hp3
  show Go l ro0 mX5_init 22 (MA_3, ZG, MP_3) 34 [.ref 0] [.ref 12, .ref 0] 27 _
  refine go_blk (pc2 := 38) (L2 := [.ref 0]) (st2 := [.ref 0]) (M2 := (MA_3, ZG, (u2 MP_3 0 2 (.ref 12)))) (hs2 := []) (C := True) [(.putfield 26, 5, 2), (.aload_n 0, 0, 0)] [] (by decide +kernel) rfl trivial ?_
  refine go_new (idx := 30) (ci := 1) (p1 := 132) (p2 := 133) (p3 := 21) (by decide +kernel) (by decide +kernel) rfl (by decide) (by decide) (by decide +kernel) rfl ?_
  rw [zer_id (n := 22) (M := (MA_3, ZG, (u2 MP_3 0 2 (.ref 12)))) (fun _ => rfl) (fun _ => rfl) (fun _ => rfl)]
  refine go_blk (pc2 := 42) (L2 := [.ref 0]) (st2 := [.ref 22, .ref 22, .ref 0]) (M2 := (MA_3, ZG, (u2 MP_3 0 2 (.ref 12)))) (hs2 := []) (C := True) [(.dup, 0, 0)] [] (by decide +kernel) rfl trivial ?_
  refine go_call (Y2 := mX1_init) (n2 := 26) (st := [.ref 22, .ref 0]) [.ref 22] [] ck_5_32 cwX1_init rfl (by decide +kernel) rfl (fun h => absurd h (by decide)) (fun _ => ⟨22, rfl, by decide, rfl⟩) (Nat.le_of_ble_eq_true rfl) (Or.inr rfl) (fun _ _ _ h => h) (s_X1_init l) (fun v M2 hp4 => ?_)
  obtain ⟨rfl, rfl⟩ := hp4
  show Go l ro0 mX5_init 26 (MA_3, ZG, MP_1) 45 [.ref 0] [.ref 22, .ref 0] 27 _
  refine go_blk (pc2 := 49) (L2 := [.ref 0]) (st2 := [.ref 0]) (M2 := (MA_3, ZG, (u2 MP_1 0 3 (.ref 22)))) (hs2 := []) (C := True) [(.putfield 33, 5, 3), (.aload_n 0, 0, 0)] [] (by decide +kernel) rfl trivial ?_
  refine go_new (idx := 37) (ci := 4) (p1 := 149) (p2 := 150) (p3 := 22) (by decide +kernel) (by decide +kernel) rfl (by decide) (by decide) (by decide +kernel) rfl ?_
  rw [zer_id (n := 26) (M := (MA_3, ZG, (u2 MP_1 0 3 (.ref 22)))) (fun _ => rfl) (fun _ => rfl) (fun _ => rfl)]
  refine go_blk (pc2 := 53) (L2 := [.ref 0]) (st2 := [.ref 26, .ref 26, .ref 0]) (M2 := (MA_3, ZG, (u2 MP_1 0 3 (.ref 22)))) (hs2 := []) (C := True) [(.dup, 0, 0)] [] (by decide +kernel) rfl trivial ?_
  refine go_call (Y2 := mX4_init) (n2 := 27) (st := [.ref 26, .ref 0]) [.ref 26] [] ck_5_39 cwX4_init rfl (by decide +kernel) rfl (fun h => absurd h (by decide)) (fun _ => ⟨26, rfl, by decide, rfl⟩) (Nat.le_of_ble_eq_true rfl) (Or.inl rfl) (fun _ _ _ h => h) (s_X4_init l) (fun v M2 hp5 => ?_)
  obtain ⟨rfl, rfl⟩ := hp5
  show Go l ro0 mX5_init 27 (MA_4, MG_4, PS_1) 56 [.ref 0] [.ref 26, .ref 0] 27 _
  refine go_blk (pc2 := 74) (L2 := [.ref 0]) (st2 := []) (M2 := ((u2 MA_4 0 5 1), (u2 (u2 MG_4 0 6 0) 0 7 0), (u2 PS_1 0 4 (.ref 26)))) (hs2 := []) (C := (1 = 0 ∨ 1 = 1) ∧ True) [(.putfield 40, 5, 4), (.aload_n 0, 0, 0), (.iconst 1, 0, 0), (.putfield 44, 5, 5), (.aload_n 0, 0, 0), (.lconst 0, 0, 0), (.putfield 48, 5, 6), (.aload_n 0, 0, 0), (.lconst 0, 0, 0), (.putfield 52, 5, 7)] [] (by decide +kernel) rfl ⟨Or.inr rfl, trivial⟩ ?_
  exact go_retv (by decide +kernel) rfl (⟨rfl, rfl⟩)
theorem P5_PF : MP_5 = PF := by
  funext o k
  have h0 : ∀ k, MP_5 0 k = PF 0 k := fun k => match k with
    | 0 => rfl
    | 1 => rfl
    | 2 => rfl
    | 3 => rfl
    | 4 => rfl
    | k + 5 => rfl
  have h1 : ∀ k, MP_5 1 k = PF 1 k := fun k => match k with
    | 0 => rfl
    | 1 => rfl
    | 2 => rfl
    | 3 => rfl
    | 4 => rfl
    | 5 => rfl
    | 6 => rfl
    | k + 7 => rfl
  have h9 : ∀ k, MP_5 9 k = PF 9 k := fun k => match k with
    | 0 => rfl
    | 1 => rfl
    | k + 2 => rfl
  have h12 : ∀ k, MP_5 12 k = PF 12 k := fun k => match k with
    | 0 => rfl
    | 1 => rfl
    | 2 => rfl
    | 3 => rfl
    | 4 => rfl
    | 5 => rfl
    | 6 => rfl
    | 7 => rfl
    | 8 => rfl
    | k + 9 => rfl
  have h22 : ∀ k, MP_5 22 k = PF 22 k := fun k => match k with
    | 0 => rfl
    | 1 => rfl
    | 2 => rfl
    | k + 3 => rfl
  by_cases c : o = 0 ∨ o = 1 ∨ o = 9 ∨ o = 12 ∨ o = 22
  · rcases c with rfl | rfl | rfl | rfl | rfl
    · exact h0 k
    · exact h1 k
    · exact h9 k
    · exact h12 k
    · exact h22 k
  · have e : PF o k = .null := by
      unfold PF
      split <;> first | (exfalso; omega) | rfl
    rw [e]
    have g : ∀ {f : Nat → Nat → Value} {o2 k2 : Nat} {v : Value}, (o2 = 0 ∨ o2 = 1 ∨ o2 = 9 ∨ o2 = 12 ∨ o2 = 22) → f o k = .null → u2 f o2 k2 v o k = .null := fun hq hf => by rw [u2_o (by omega)]; exact hf
    exact (g (by omega) (g (by omega) (g (by omega) (g (by omega) (g (by omega) (g (by omega) (g (by omega) (g (by omega) (g (by omega) (g (by omega) (g (by omega) (g (by omega) (g (by omega) (g (by omega) (g (by omega) (g (by omega) (g (by omega) (g (by omega) (g (by omega) (g (by omega) (g (by omega) (g (by omega) (g (by omega) (g (by omega) (g (by omega) (g (by omega) rfl))))))))))))))))))))))))))
end
section
/-! ===== bits ===== -/
def tb (x : Int32) (i : Nat) : Bool := x.toBitVec.getLsbD i
theorem tb_ext {x y : Int32} (h : ∀ i, i < 32 → tb x i = tb y i) : x = y := by
  apply Int32.toBitVec_inj.mp
  apply BitVec.eq_of_getLsbD_eq
  exact fun i hi => h i hi
theorem tb_and (x y : Int32) (i : Nat) : tb (x &&& y) i = (tb x i && tb y i) := by simp [tb]
theorem tb_or (x y : Int32) (i : Nat) : tb (x ||| y) i = (tb x i || tb y i) := by simp [tb]
theorem tb_0 (i : Nat) : tb 0 i = false := by simp [tb]
theorem tb_m1 : ∀ i, i < 32 → tb (-1) i = true := by decide +kernel
theorem tb_not (x : Int32) {i : Nat} (hi : i < 32) : tb (x ^^^ (-1)) i = !tb x i := by
  have h := tb_m1 i hi
  unfold tb at h ⊢
  simp only [Int32.toBitVec_xor, BitVec.getLsbD_xor, h]
  simp
theorem tb_pow : ∀ k, k < 32 → ∀ i, i < 32 → tb (1 <<< (nI k &&& 31)) i = decide (i = k) := by decide +kernel
theorem tb_sh {c k : Nat} (x : Int32) (hx : x = nI c) (h : c + k < 32) {i : Nat} (hi : i < 32) : tb (1 <<< ((x + nI k) &&& 31)) i = decide (i = c + k) := by
  have e : x + nI k = nI (c + k) := by
    rw [hx]
    show Int32.ofNat c + Int32.ofNat k = Int32.ofNat (c + k)
    rw [Int32.ofNat_add]
  rw [e]
  exact tb_pow _ h i hi
theorem z_iff {x : Int32} : x = 0 ↔ ∀ i, i < 32 → tb x i = false := by
  constructor
  · rintro rfl i _
    exact tb_0 i
  · exact fun h => tb_ext fun i hi => by rw [h i hi, tb_0]
theorem sub_iff {x y : Int32} : x &&& y = y ↔ ∀ i, i < 32 → tb y i = true → tb x i = true := by
  constructor
  · intro h i hi hy
    have := congrArg (fun z => tb z i) h
    simp only [tb_and, hy] at this
    simpa using this
  · intro h
    apply tb_ext
    intro i hi
    rw [tb_and]
    have := h i hi
    cases hy : tb y i
    · simp
    · simp [this hy]
/-- where a number is on a row of a table -/
theorem nI_of_nonneg {x : Int32} (h : 0 ≤ x) : ∃ k, x = nI k ∧ k < 2 ^ 31 := by
  refine ⟨x.toNatClampNeg, ?_, ?_⟩
  · have h2 : (0 : Int) ≤ x.toInt := by simpa using Int32.le_iff_toInt_le.mp h
    apply Int32.toInt_inj.mp
    have h3 : x.toInt < 2 ^ 31 := Int32.toInt_lt x
    show x.toInt = (Int32.ofNat x.toNatClampNeg).toInt
    rw [Int32.toInt_ofNat_of_lt]
    · unfold Int32.toNatClampNeg
      omega
    · unfold Int32.toNatClampNeg
      omega
  · have h3 : x.toInt < 2 ^ 31 := Int32.toInt_lt x
    unfold Int32.toNatClampNeg
    omega
theorem tb_snd (A : Nat → Nat → Int32) (s : Nat) : ∀ K, K ≤ 5 → ∀ i, i < 32 → (tb (snd A s K) i = true ↔ ∃ k, k < K ∧ ((A 2 k = 1 ∧ s.testBit k = true ∧ i = k) ∨ (A 2 k = 1 ∧ ¬ s.testBit k = true ∧ i = 8 + k) ∨ (A 2 k = 2 ∧ s.testBit k = true ∧ (i = k ∨ i = 8 + k)))) := by
  intro K
  induction K with
  | zero =>
    intro _ i _
    constructor
    · intro h
      exact absurd h (by rw [show snd A s 0 = 0 from rfl, tb_0]; simp)
    · rintro ⟨k, hk, _⟩
      omega
  | succ K ih =>
    intro hK i hi
    have ih := ih (by omega) i hi
    have st : ∀ P : Prop, (tb (snd A s (K + 1)) i = true ↔ (tb (snd A s K) i = true ∨ P)) → (P ↔ ((A 2 K = 1 ∧ s.testBit K = true ∧ i = K) ∨ (A 2 K = 1 ∧ ¬ s.testBit K = true ∧ i = 8 + K) ∨ (A 2 K = 2 ∧ s.testBit K = true ∧ (i = K ∨ i = 8 + K)))) → (tb (snd A s (K + 1)) i = true ↔ ∃ k, k < K + 1 ∧ ((A 2 k = 1 ∧ s.testBit k = true ∧ i = k) ∨ (A 2 k = 1 ∧ ¬ s.testBit k = true ∧ i = 8 + k) ∨ (A 2 k = 2 ∧ s.testBit k = true ∧ (i = k ∨ i = 8 + k)))) := by
      intro P h1 h2
      rw [h1, h2, ih]
      constructor
      · rintro (⟨k, h3, h4⟩ | h4)
        · exact ⟨k, by omega, h4⟩
        · exact ⟨K, by omega, h4⟩
      · rintro ⟨k, h3, h4⟩
        by_cases e : k = K
        · subst e; exact Or.inr h4
        · exact Or.inl ⟨k, by omega, h4⟩
    by_cases c1 : A 2 K = 1
    · have c2 : ¬ A 2 K = 2 := by rw [c1]; decide
      by_cases c3 : s.testBit K = true
      · refine st (i = K) ?_ (by simp [c1, c3])
        simp only [snd, c1, c3, if_true]
        rw [tb_or, tb_sh (c := 0) 0 rfl (by omega) hi]
        simp
      · refine st (i = 8 + K) ?_ (by simp [c1, c3])
        simp only [snd, c1, c3, if_true]
        rw [tb_or, tb_sh (c := 8) _ (by rfl) (by omega) hi]
        simp
    · by_cases c2 : A 2 K = 2 ∧ s.testBit K = true
      · refine st (i = K ∨ i = 8 + K) ?_ (by simp [c2])
        simp only [snd, if_neg c1, if_pos c2]
        rw [tb_or, tb_or, tb_sh (c := 0) 0 rfl (by omega) hi, tb_sh (c := 8) 8 rfl (by omega) hi]
        simp
      · refine st False ?_ ?_
        · simp only [snd, if_neg c1, if_neg c2]
          simp
        · constructor
          · exact fun z => z.elim
          · rintro (h | h | h)
            · exact c1 h.1
            · exact c1 h.1
            · exact c2 ⟨h.1, h.2.1⟩
theorem tb_ssg (A : Nat → Nat → Int32) (s : Nat) : ∀ K, K ≤ 5 → ∀ i, i < 32 → (tb (ssg A s K) i = true ↔ ∃ k, k < K ∧ ¬ s.testBit k = true ∧ ((A 2 k = 1 ∧ i = 16 + k) ∨ (A 2 k = 2 ∧ i = 24 + k))) := by
  intro K
  induction K with
  | zero =>
    intro _ i _
    constructor
    · intro h
      exact absurd h (by rw [show ssg A s 0 = 0 from rfl, tb_0]; simp)
    · rintro ⟨k, hk, _⟩
      omega
  | succ K ih =>
    intro hK i hi
    have ih := ih (by omega) i hi
    have st : ∀ P : Prop, (tb (ssg A s (K + 1)) i = true ↔ (tb (ssg A s K) i = true ∨ P)) → (P ↔ (¬ s.testBit K = true ∧ ((A 2 K = 1 ∧ i = 16 + K) ∨ (A 2 K = 2 ∧ i = 24 + K)))) → (tb (ssg A s (K + 1)) i = true ↔ ∃ k, k < K + 1 ∧ ¬ s.testBit k = true ∧ ((A 2 k = 1 ∧ i = 16 + k) ∨ (A 2 k = 2 ∧ i = 24 + k))) := by
      intro P h1 h2
      rw [h1, h2, ih]
      constructor
      · rintro (⟨k, h3, h4⟩ | h4)
        · exact ⟨k, by omega, h4⟩
        · exact ⟨K, by omega, h4⟩
      · rintro ⟨k, h3, h4⟩
        by_cases e : k = K
        · subst e; exact Or.inr h4
        · exact Or.inl ⟨k, by omega, h4⟩
    by_cases c1 : A 2 K = 1 ∧ ¬ s.testBit K = true
    · refine st (i = 16 + K) ?_ ?_
      · simp only [ssg, if_pos c1]
        rw [tb_or, tb_sh (c := 16) 16 rfl (by omega) hi]
        simp
      · constructor
        · exact fun z => ⟨c1.2, Or.inl ⟨c1.1, z⟩⟩
        · rintro ⟨_, h | h⟩
          · exact h.2
          · exact absurd (c1.1.symm.trans h.1) (by decide)
    · by_cases c2 : A 2 K = 2 ∧ ¬ s.testBit K = true
      · refine st (i = 24 + K) ?_ ?_
        · simp only [ssg, if_neg c1, if_pos c2]
          rw [tb_or, tb_sh (c := 24) 24 rfl (by omega) hi]
          simp
        · constructor
          · exact fun z => ⟨c2.2, Or.inr ⟨c2.1, z⟩⟩
          · rintro ⟨_, h | h⟩
            · exact absurd (c2.1.symm.trans h.1) (by decide)
            · exact h.2
      · refine st False ?_ ?_
        · simp only [ssg, if_neg c1, if_neg c2]
          simp
        · constructor
          · exact fun z => z.elim
          · rintro ⟨h1, h | h⟩
            · exact c1 ⟨h.1, h1⟩
            · exact c2 ⟨h.1, h1⟩
theorem nI5 (t : Nat) : (5 : Int32) + nI t = nI (5 + t) := by
  show Int32.ofNat 5 + Int32.ofNat t = Int32.ofNat (5 + t)
  rw [Int32.ofNat_add]
theorem tb_pnd (p : Nat) : ∀ K, K ≤ 3 → ∀ i, i < 32 → (tb (pnd p K) i = true ↔ ∃ t, t < K ∧ PEq p t ∧ (i = 5 + t ∨ i = 13 + t)) := by
  intro K
  induction K with
  | zero =>
    intro _ i _
    constructor
    · intro h
      exact absurd h (by rw [show pnd p 0 = 0 from rfl, tb_0]; simp)
    · rintro ⟨k, hk, _⟩
      omega
  | succ K ih =>
    intro hK i hi
    have ih := ih (by omega) i hi
    rcases Classical.em (PEq p K) with q | q
    · rw [pnd_t q, tb_or, tb_or, nI5, tb_sh (c := 0) 0 rfl (by omega) hi, tb_sh (c := 8) 8 rfl (by omega) hi]
      simp only [Bool.or_eq_true, decide_eq_true_eq, ih]
      constructor
      · rintro (⟨k, h3, h4⟩ | h4)
        · exact ⟨k, by omega, h4⟩
        · exact ⟨K, by omega, q, by omega⟩
      · rintro ⟨k, h3, h4⟩
        by_cases e : k = K
        · subst e; exact Or.inr (by have h5 := h4.2; clear h4 ih; omega)
        · exact Or.inl ⟨k, by omega, h4⟩
    · rw [pnd_f q, ih]
      constructor
      · rintro ⟨k, h3, h4⟩
        exact ⟨k, by omega, h4⟩
      · rintro ⟨k, h3, h4⟩
        by_cases e : k = K
        · subst e; exact absurd h4.1 q
        · exact ⟨k, by omega, h4⟩
theorem tb_psg (p : Nat) : ∀ K, K ≤ 3 → ∀ i, i < 32 → (tb (psg p K) i = true ↔ ∃ t, t < K ∧ ¬ PEq p t ∧ i = 29 + t) := by
  intro K
  induction K with
  | zero =>
    intro _ i _
    constructor
    · intro h
      exact absurd h (by rw [show psg p 0 = 0 from rfl, tb_0]; simp)
    · rintro ⟨k, hk, _⟩
      omega
  | succ K ih =>
    intro hK i hi
    have ih := ih (by omega) i hi
    rcases Classical.em (PEq p K) with q | q
    · rw [psg_t q, ih]
      constructor
      · rintro ⟨k, h3, h4⟩
        exact ⟨k, by omega, h4⟩
      · rintro ⟨k, h3, h4⟩
        by_cases e : k = K
        · subst e; exact absurd q h4.1
        · exact ⟨k, by omega, h4⟩
    · rw [psg_f q, tb_or, nI5, tb_sh (c := 24) 24 rfl (by omega) hi]
      simp only [Bool.or_eq_true, decide_eq_true_eq, ih]
      constructor
      · rintro (⟨k, h3, h4⟩ | h4)
        · exact ⟨k, by omega, h4⟩
        · exact ⟨K, by omega, q, by omega⟩
      · rintro ⟨k, h3, h4⟩
        by_cases e : k = K
        · subst e; exact Or.inr (by omega)
        · exact Or.inl ⟨k, by omega, h4⟩
theorem tb_fsd (A : Nat → Nat → Int32) (x y z w : Int32) : ∀ K, K ≤ 8 → ∀ i, i < 32 → (tb (fsd A x y z w K) i = true ↔ ∃ t, t < K ∧ ((i = t ∧ fov A x y z w t ≤ 0) ∨ (i = 8 + t ∧ 0 ≤ fov A x y z w t) ∨ (i = 16 + t ∧ 0 < fov A x y z w t) ∨ (i = 24 + t ∧ ¬ fov A x y z w t = 0))) := by
  intro K
  induction K with
  | zero =>
    intro _ i _
    constructor
    · intro h
      exact absurd h (by rw [show fsd A x y z w 0 = 0 from rfl, tb_0]; simp)
    · rintro ⟨k, hk, _⟩
      omega
  | succ K ih =>
    intro hK i hi
    have ih := ih (by omega) i hi
    have st : ∀ P : Prop, (tb (fsd A x y z w (K + 1)) i = true ↔ (tb (fsd A x y z w K) i = true ∨ P)) → (P ↔ ((i = K ∧ fov A x y z w K ≤ 0) ∨ (i = 8 + K ∧ 0 ≤ fov A x y z w K) ∨ (i = 16 + K ∧ 0 < fov A x y z w K) ∨ (i = 24 + K ∧ ¬ fov A x y z w K = 0))) → (tb (fsd A x y z w (K + 1)) i = true ↔ ∃ t, t < K + 1 ∧ ((i = t ∧ fov A x y z w t ≤ 0) ∨ (i = 8 + t ∧ 0 ≤ fov A x y z w t) ∨ (i = 16 + t ∧ 0 < fov A x y z w t) ∨ (i = 24 + t ∧ ¬ fov A x y z w t = 0))) := by
      intro P h1 h2
      rw [h1, h2, ih]
      constructor
      · rintro (⟨k, h3, h4⟩ | h4)
        · exact ⟨k, by omega, h4⟩
        · exact ⟨K, by omega, h4⟩
      · rintro ⟨k, h3, h4⟩
        by_cases e : k = K
        · subst e; exact Or.inr h4
        · exact Or.inl ⟨k, by omega, h4⟩
    generalize hf : fov A x y z w K = f at st
    by_cases c1 : f = 0
    · refine st (i = K ∨ i = 8 + K) ?_ ?_
      · simp only [fsd, hf, if_pos c1]
        rw [tb_or, tb_or, tb_sh (c := 0) 0 rfl (by omega) hi, tb_sh (c := 8) 8 rfl (by omega) hi]
        simp
      · subst c1
        simp
    · by_cases c2 : f < 0
      · have n1 : f ≤ 0 := Int32.le_of_lt c2
        have n2 : ¬ 0 ≤ f := Int32.not_le.mpr c2
        have n3 : ¬ 0 < f := fun q => n2 (Int32.le_of_lt q)
        refine st (i = K ∨ i = 24 + K) ?_ ?_
        · simp only [fsd, hf, if_neg c1, if_pos c2]
          rw [tb_or, tb_or, tb_sh (c := 0) 0 rfl (by omega) hi, tb_sh (c := 24) 24 rfl (by omega) hi]
          simp
        · simp [c1, n1, n2, n3]
      · have n2 : 0 ≤ f := Int32.not_lt.mp c2
        have n3 : 0 < f := Int32.not_le.mp (fun q => c1 (Int32.le_antisymm q n2))
        have n1 : ¬ f ≤ 0 := Int32.not_le.mpr n3
        refine st ((i = 8 + K ∨ i = 16 + K) ∨ i = 24 + K) ?_ ?_
        · simp only [fsd, hf, if_neg c1, if_neg c2]
          rw [tb_or, tb_or, tb_or, tb_sh (c := 8) 8 rfl (by omega) hi, tb_sh (c := 16) 16 rfl (by omega) hi, tb_sh (c := 24) 24 rfl (by omega) hi]
          simp
        · simp [c1, n1, n2, n3, or_assoc]
/-- the four bits of a plane at a corner -/
theorem fsd_bits (A : Nat → Nat → Int32) (x y z w : Int32) {t : Nat} (ht : t < 8) : (tb (fsd A x y z w 8) t = true ↔ fov A x y z w t ≤ 0) ∧ (tb (fsd A x y z w 8) (8 + t) = true ↔ 0 ≤ fov A x y z w t) ∧ (tb (fsd A x y z w 8) (16 + t) = true ↔ 0 < fov A x y z w t) ∧ (tb (fsd A x y z w 8) (24 + t) = true ↔ ¬ fov A x y z w t = 0) := by
  refine ⟨?_, ?_, ?_, ?_⟩
  · rw [tb_fsd A x y z w 8 (by omega) _ (by omega)]
    constructor
    · rintro ⟨t2, h1, ⟨h2, h3⟩ | ⟨h2, h3⟩ | ⟨h2, h3⟩ | ⟨h2, h3⟩⟩ <;> first | omega | (obtain rfl : t = t2 := (by omega); exact h3)
    · exact fun h => ⟨t, ht, Or.inl ⟨rfl, h⟩⟩
  · rw [tb_fsd A x y z w 8 (by omega) _ (by omega)]
    constructor
    · rintro ⟨t2, h1, ⟨h2, h3⟩ | ⟨h2, h3⟩ | ⟨h2, h3⟩ | ⟨h2, h3⟩⟩ <;> first | omega | (obtain rfl : t = t2 := (by omega); exact h3)
    · exact fun h => ⟨t, ht, Or.inr (Or.inl ⟨rfl, h⟩)⟩
  · rw [tb_fsd A x y z w 8 (by omega) _ (by omega)]
    constructor
    · rintro ⟨t2, h1, ⟨h2, h3⟩ | ⟨h2, h3⟩ | ⟨h2, h3⟩ | ⟨h2, h3⟩⟩ <;> first | omega | (obtain rfl : t = t2 := (by omega); exact h3)
    · exact fun h => ⟨t, ht, Or.inr (Or.inr (Or.inl ⟨rfl, h⟩))⟩
  · rw [tb_fsd A x y z w 8 (by omega) _ (by omega)]
    constructor
    · rintro ⟨t2, h1, ⟨h2, h3⟩ | ⟨h2, h3⟩ | ⟨h2, h3⟩ | ⟨h2, h3⟩⟩ <;> first | omega | (obtain rfl : t = t2 := (by omega); exact h3)
    · exact fun h => ⟨t, ht, Or.inr (Or.inr (Or.inr ⟨rfl, h⟩))⟩
end
section
abbrev Rw : Type := Int32 × Int32 × Int32 × Int32
noncomputable def fold (P : Nat → Prop) (f : Nat → Int32 → Int32) (z : Int32) : Nat → Int32
  | 0 => z
  | k + 1 => @ite Int32 (P k) (Classical.propDecidable _) (f k (fold P f z k)) (fold P f z k)
theorem fold_t {P : Nat → Prop} {f : Nat → Int32 → Int32} {z : Int32} {k : Nat} (h : P k) : fold P f z (k + 1) = f k (fold P f z k) := if_pos h
theorem fold_f {P : Nat → Prop} {f : Nat → Int32 → Int32} {z : Int32} {k : Nat} (h : ¬ P k) : fold P f z (k + 1) = fold P f z k := if_neg h
/-! ===== what it is for a cell to be open, on both sides ===== -/
theorem tb_nI : ∀ s, s < 32 → ∀ i, i < 32 → tb (nI s) i = s.testBit i := by decide +kernel
theorem tb_7 : ∀ i, i < 32 → tb 7 i = decide (i < 3) := by decide +kernel
def alb (x y z : Int32) (t : Nat) : Prop := match t with
  | 0 => x = y
  | 1 => x = z
  | _ => y = z
/-- folds -/
theorem fold_any (P : Nat → Prop) (cnt : Nat) : ¬ fold P (fun _ _ => 1) 0 cnt = 0 ↔ ∃ n, n < cnt ∧ P n := by
  induction cnt with
  | zero =>
    constructor
    · intro h; exact absurd rfl h
    · rintro ⟨n, h, _⟩; omega
  | succ k ih =>
    rcases Classical.em (P k) with q | q
    · rw [fold_t q]
      exact ⟨fun _ => ⟨k, by omega, q⟩, fun _ => by decide⟩
    · rw [fold_f q, ih]
      constructor
      · rintro ⟨n, h1, h2⟩; exact ⟨n, by omega, h2⟩
      · rintro ⟨n, h1, h2⟩
        by_cases e : n = k
        · subst e; exact absurd h2 q
        · exact ⟨n, by omega, h2⟩
theorem fold_and (P : Nat → Prop) (g : Nat → Int32) (z : Int32) (i : Nat) (cnt : Nat) : tb (fold P (fun n v => v &&& g n) z cnt) i = true ↔ (tb z i = true ∧ ∀ n, n < cnt → P n → tb (g n) i = true) := by
  induction cnt with
  | zero => exact ⟨fun h => ⟨h, fun n hn => by omega⟩, fun h => h.1⟩
  | succ k ih =>
    rcases Classical.em (P k) with q | q
    · rw [fold_t q, tb_and, Bool.and_eq_true, ih]
      constructor
      · rintro ⟨⟨h1, h2⟩, h3⟩
        refine ⟨h1, fun n hn hp => ?_⟩
        by_cases e : n = k
        · subst e; exact h3
        · exact h2 n (by omega) hp
      · rintro ⟨h1, h2⟩
        exact ⟨⟨h1, fun n hn => h2 n (by omega)⟩, h2 k (by omega) q⟩
    · rw [fold_f q, ih]
      constructor
      · rintro ⟨h1, h2⟩
        refine ⟨h1, fun n hn hp => ?_⟩
        by_cases e : n = k
        · subst e; exact absurd hp q
        · exact h2 n (by omega) hp
      · rintro ⟨h1, h2⟩
        exact ⟨h1, fun n hn => h2 n (by omega)⟩
theorem fold_z (P : Nat → Prop) (g : Nat → Int32) (z : Int32) (cnt : Nat) : fold P (fun n v => v &&& g n) z cnt = 0 ↔ ∀ i, i < 32 → tb z i = true → ∃ n, n < cnt ∧ P n ∧ tb (g n) i = false := by
  rw [z_iff]
  constructor
  · intro h i hi hz
    refine Classical.byContradiction fun q => ?_
    have : tb (fold P (fun n v => v &&& g n) z cnt) i = true := (fold_and P g z i cnt).mpr ⟨hz, fun n hn hp => by
      cases hg : tb (g n) i
      · exact absurd ⟨n, hn, hp, hg⟩ q
      · rfl⟩
    rw [h i hi] at this
    cases this
  · intro h i hi
    cases hf : tb (fold P (fun n v => v &&& g n) z cnt) i
    · rfl
    · obtain ⟨h1, h2⟩ := (fold_and P g z i cnt).mp hf
      obtain ⟨n, h3, h4, h5⟩ := h i hi h1
      rw [h2 n h3 h4] at h5
      cases h5
theorem anyf_iff (A : Nat → Nat → Int32) (nd : Int32) (cnt : Nat) : ¬ anyf A nd cnt = 0 ↔ ∃ n, n < cnt ∧ fit A nd n := by
  induction cnt with
  | zero =>
    constructor
    · intro h; exact absurd rfl h
    · rintro ⟨n, h, _⟩; omega
  | succ k ih =>
    rcases Classical.em (fit A nd k) with q | q
    · rw [anyf_t q]
      exact ⟨fun _ => ⟨k, by omega, q⟩, fun _ => by decide⟩
    · rw [anyf_f q, ih]
      constructor
      · rintro ⟨n, h1, h2⟩; exact ⟨n, by omega, h2⟩
      · rintro ⟨n, h1, h2⟩
        by_cases e : n = k
        · subst e; exact absurd h2 q
        · exact ⟨n, by omega, h2⟩
theorem mis_fold (A : Nat → Nat → Int32) (nd sg : Int32) (cnt : Nat) : mis A nd sg cnt = fold (fit A nd) (fun n v => v &&& (A 21 n ^^^ (-1))) sg cnt := by
  induction cnt with
  | zero => rfl
  | succ k ih =>
    rcases Classical.em (fit A nd k) with q | q
    · rw [mis_t q, fold_t q, ih]
    · rw [mis_f q, fold_f q, ih]
/-- how a corner lies, in words of the signs of its planes -/
def FitS (A : Nat → Nat → Int32) (s p : Nat) (v : Nat → Int32) : Prop := (∀ k, k < 5 → A 2 k = 1 → (s.testBit k = true → v k ≤ 0) ∧ (¬ s.testBit k = true → 0 ≤ v k)) ∧ (∀ k, k < 5 → A 2 k = 2 → s.testBit k = true → v k = 0) ∧ ∀ t, t < 3 → PEq p t → v (5 + t) = 0
/-- that a cell is open, by the corners of the kind P -/
def SidS (A : Nat → Nat → Int32) (s p : Nat) (v : Nat → Nat → Int32) (P : Nat → Prop) (cnt : Nat) : Prop := (∀ k, k < 5 → A 2 k = 1 → ¬ s.testBit k = true → ∃ n, n < cnt ∧ P n ∧ 0 < v n k) ∧ (∀ k, k < 5 → A 2 k = 2 → ¬ s.testBit k = true → ∃ n, n < cnt ∧ P n ∧ ¬ v n k = 0) ∧ ∀ t, t < 3 → ¬ PEq p t → ∃ n, n < cnt ∧ P n ∧ ¬ v n (5 + t) = 0
def vC (A : Nat → Nat → Int32) (n t : Nat) : Int32 := fov A (A 17 n) (A 18 n) (A 19 n) (A 20 n) t
def vQ (A : Nat → Nat → Int32) (n t : Nat) : Int32 := fov A (A 33 (4 * n)) (A 33 (4 * n + 1)) (A 33 (4 * n + 2)) (A 33 (4 * n + 3)) t
def Sd (A : Nat → Nat → Int32) (n : Nat) : Prop := A 21 n = fsd A (A 17 n) (A 18 n) (A 19 n) (A 20 n) 8
theorem Sd.bits {A : Nat → Nat → Int32} {n : Nat} (h : Sd A n) {t : Nat} (ht : t < 8) : (tb (A 21 n) t = true ↔ vC A n t ≤ 0) ∧ (tb (A 21 n) (8 + t) = true ↔ 0 ≤ vC A n t) ∧ (tb (A 21 n) (16 + t) = true ↔ 0 < vC A n t) ∧ (tb (A 21 n) (24 + t) = true ↔ ¬ vC A n t = 0) := by
  rw [h]
  exact fsd_bits A _ _ _ _ ht
theorem le0_iff {x : Int32} : (x ≤ 0 ∧ 0 ≤ x) ↔ x = 0 := ⟨fun h => Int32.le_antisymm h.1 h.2, fun h => by rw [h]; exact ⟨Int32.le_refl _, Int32.le_refl _⟩⟩
theorem tb_ndc (A : Nat → Nat → Int32) (s p : Nat) {i : Nat} (hi : i < 32) : tb (ndc A s p) i = true ↔ ((∃ k, k < 5 ∧ ((A 2 k = 1 ∧ s.testBit k = true ∧ i = k) ∨ (A 2 k = 1 ∧ ¬ s.testBit k = true ∧ i = 8 + k) ∨ (A 2 k = 2 ∧ s.testBit k = true ∧ (i = k ∨ i = 8 + k)))) ∨ ∃ t, t < 3 ∧ PEq p t ∧ (i = 5 + t ∨ i = 13 + t)) := by
  unfold ndc
  rw [tb_or, Bool.or_eq_true, tb_snd A s 5 (by omega) i hi, tb_pnd p 3 (by omega) i hi]
theorem tb_sgc (A : Nat → Nat → Int32) (s p : Nat) {i : Nat} (hi : i < 32) : tb (sgc A s p) i = true ↔ ((∃ k, k < 5 ∧ ¬ s.testBit k = true ∧ ((A 2 k = 1 ∧ i = 16 + k) ∨ (A 2 k = 2 ∧ i = 24 + k))) ∨ ∃ t, t < 3 ∧ ¬ PEq p t ∧ i = 29 + t) := by
  unfold sgc
  rw [tb_or, Bool.or_eq_true, tb_ssg A s 5 (by omega) i hi, tb_psg p 3 (by omega) i hi]
theorem fit_iff {A : Nat → Nat → Int32} {n : Nat} (h : Sd A n) (s p : Nat) : fit A (ndc A s p) n ↔ FitS A s p (vC A n) := by
  unfold fit
  rw [sub_iff]
  constructor
  · intro hh
    refine ⟨fun k hk h1 => ⟨fun hb => ?_, fun hb => ?_⟩, fun k hk h2 hb => ?_, fun t ht hq => ?_⟩
    · exact (h.bits (by omega)).1.mp (hh k (by omega) ((tb_ndc A s p (by omega)).mpr (Or.inl ⟨k, hk, Or.inl ⟨h1, hb, rfl⟩⟩)))
    · exact (h.bits (by omega)).2.1.mp (hh (8 + k) (by omega) ((tb_ndc A s p (by omega)).mpr (Or.inl ⟨k, hk, Or.inr (Or.inl ⟨h1, hb, rfl⟩)⟩)))
    · exact le0_iff.mp ⟨(h.bits (by omega)).1.mp (hh k (by omega) ((tb_ndc A s p (by omega)).mpr (Or.inl ⟨k, hk, Or.inr (Or.inr ⟨h2, hb, Or.inl rfl⟩)⟩))), (h.bits (by omega)).2.1.mp (hh (8 + k) (by omega) ((tb_ndc A s p (by omega)).mpr (Or.inl ⟨k, hk, Or.inr (Or.inr ⟨h2, hb, Or.inr rfl⟩)⟩)))⟩
    · refine le0_iff.mp ⟨(h.bits (by omega)).1.mp (hh (5 + t) (by omega) ((tb_ndc A s p (by omega)).mpr (Or.inr ⟨t, ht, hq, Or.inl rfl⟩))), (h.bits (by omega)).2.1.mp (hh (8 + (5 + t)) (by omega) ((tb_ndc A s p (by omega)).mpr (Or.inr ⟨t, ht, hq, Or.inr (by omega)⟩)))⟩
  · rintro ⟨h1, h2, h3⟩ i hi hb
    rcases (tb_ndc A s p hi).mp hb with ⟨k, hk, ⟨q1, q2, rfl⟩ | ⟨q1, q2, rfl⟩ | ⟨q1, q2, rfl | rfl⟩⟩ | ⟨t, ht, q1, rfl | rfl⟩
    · exact (h.bits (by omega)).1.mpr ((h1 _ hk q1).1 q2)
    · exact (h.bits (by omega)).2.1.mpr ((h1 _ hk q1).2 q2)
    · exact (h.bits (by omega)).1.mpr (le0_iff.mpr (h2 _ hk q1 q2)).1
    · exact (h.bits (by omega)).2.1.mpr (le0_iff.mpr (h2 _ hk q1 q2)).2
    · exact (h.bits (by omega)).1.mpr (le0_iff.mpr (h3 _ ht q1)).1
    · rw [show 13 + t = 8 + (5 + t) by omega]
      exact (h.bits (by omega)).2.1.mpr (le0_iff.mpr (h3 _ ht q1)).2
theorem sg_iff {A : Nat → Nat → Int32} {cnt : Nat} (h : ∀ n, n < cnt → Sd A n) (s p : Nat) (P : Nat → Prop) : (∀ i, i < 32 → tb (sgc A s p) i = true → ∃ n, n < cnt ∧ P n ∧ tb (A 21 n) i = true) ↔ SidS A s p (vC A) P cnt := by
  constructor
  · intro hh
    refine ⟨fun k hk h1 hb => ?_, fun k hk h2 hb => ?_, fun t ht hq => ?_⟩
    · obtain ⟨n, g1, g2, g3⟩ := hh (16 + k) (by omega) ((tb_sgc A s p (by omega)).mpr (Or.inl ⟨k, hk, hb, Or.inl ⟨h1, rfl⟩⟩))
      exact ⟨n, g1, g2, ((h n g1).bits (by omega)).2.2.1.mp g3⟩
    · obtain ⟨n, g1, g2, g3⟩ := hh (24 + k) (by omega) ((tb_sgc A s p (by omega)).mpr (Or.inl ⟨k, hk, hb, Or.inr ⟨h2, rfl⟩⟩))
      exact ⟨n, g1, g2, ((h n g1).bits (by omega)).2.2.2.mp g3⟩
    · obtain ⟨n, g1, g2, g3⟩ := hh (29 + t) (by omega) ((tb_sgc A s p (by omega)).mpr (Or.inr ⟨t, ht, hq, rfl⟩))
      rw [show 29 + t = 24 + (5 + t) by omega] at g3
      exact ⟨n, g1, g2, ((h n g1).bits (by omega)).2.2.2.mp g3⟩
  · rintro ⟨h1, h2, h3⟩ i hi hb
    rcases (tb_sgc A s p hi).mp hb with ⟨k, hk, q0, ⟨q1, rfl⟩ | ⟨q1, rfl⟩⟩ | ⟨t, ht, q1, rfl⟩
    · obtain ⟨n, g1, g2, g3⟩ := h1 k hk q1 q0
      exact ⟨n, g1, g2, ((h n g1).bits (by omega)).2.2.1.mpr g3⟩
    · obtain ⟨n, g1, g2, g3⟩ := h2 k hk q1 q0
      exact ⟨n, g1, g2, ((h n g1).bits (by omega)).2.2.2.mpr g3⟩
    · obtain ⟨n, g1, g2, g3⟩ := h3 t ht q1
      rw [show 29 + t = 24 + (5 + t) by omega]
      exact ⟨n, g1, g2, ((h n g1).bits (by omega)).2.2.2.mpr g3⟩
theorem SidS_P {A : Nat → Nat → Int32} {s p : Nat} {v : Nat → Nat → Int32} {P Q : Nat → Prop} {cnt : Nat} (h : ∀ n, n < cnt → (P n ↔ Q n)) : SidS A s p v P cnt ↔ SidS A s p v Q cnt := by
  have e : ∀ R : Nat → Prop, (∃ n, n < cnt ∧ P n ∧ R n) ↔ ∃ n, n < cnt ∧ Q n ∧ R n := fun R => ⟨fun ⟨n, h1, h2, h3⟩ => ⟨n, h1, (h n h1).mp h2, h3⟩, fun ⟨n, h1, h2, h3⟩ => ⟨n, h1, (h n h1).mpr h2, h3⟩⟩
  unfold SidS
  simp only [e]
theorem HavP_iff {A : Nat → Nat → Int32} {cnt : Nat} (h : ∀ n, n < cnt → Sd A n) (s p : Nat) : HavP A (ndc A s p) (sgc A s p) cnt ↔ ((∃ n, n < cnt ∧ FitS A s p (vC A n)) ∧ SidS A s p (vC A) (fun n => FitS A s p (vC A n)) cnt) := by
  unfold HavP
  rw [anyf_iff, mis_fold, fold_z]
  have e1 : (∃ n, n < cnt ∧ fit A (ndc A s p) n) ↔ ∃ n, n < cnt ∧ FitS A s p (vC A n) := ⟨fun ⟨n, h1, h2⟩ => ⟨n, h1, (fit_iff (h n h1) s p).mp h2⟩, fun ⟨n, h1, h2⟩ => ⟨n, h1, (fit_iff (h n h1) s p).mpr h2⟩⟩
  rw [e1, ← SidS_P (fun n hn => fit_iff (h n hn) s p), ← sg_iff h s p (fit A (ndc A s p))]
  refine and_congr Iff.rfl ⟨fun hh i hi hb => ?_, fun hh i hi hb => ?_⟩
  · obtain ⟨n, g1, g2, g3⟩ := hh i hi hb
    rw [tb_not _ hi] at g3
    exact ⟨n, g1, g2, by simpa using g3⟩
  · obtain ⟨n, g1, g2, g3⟩ := hh i hi hb
    exact ⟨n, g1, g2, by rw [tb_not _ hi, g3]; rfl⟩

theorem tbf {b : Bool} : b = false ↔ ¬ b = true := by cases b <;> simp
def Cp2 (A : Nat → Nat → Int32) : Prop := ∀ k, k < 5 → A 2 k = 3 → A 29 (4 * k) = A 7 k ∧ A 29 (4 * k + 1) = A 8 k
end
section
def upf (f : Nat → Rw) (n : Nat) (r : Rw) : Nat → Rw := fun i => if i = n then r else f i
def fx9 : Nat → Rw := upf (upf (upf (upf (upf (upf (upf (upf (upf (fun _ => (0, 0, 0, 0)) 0 (1, 0, 0, 20)) 1 (1, 0, 0, -20)) 2 (0, 1, 0, 20)) 3 (0, 1, 0, -20)) 4 (0, 0, 1, 20)) 5 (0, 0, 1, -20)) 6 (1, -1, 0, 0)) 7 (1, 0, -1, 0)) 8 (0, 1, -1, 0)
/-! ===== corners: one set on both sides ===== -/
def dt3 (f g h : Rw → Int32) (P Q R : Rw) : Int32 := f P * (g Q * h R - g R * h Q) - g P * (f Q * h R - f R * h Q) + h P * (f Q * g R - f R * g Q)
def ra (P : Rw) : Int32 := P.1
def rb (P : Rw) : Int32 := P.2.1
def rc (P : Rw) : Int32 := P.2.2.1
def rd (P : Rw) : Int32 := P.2.2.2
theorem dt3_12 (f g h : Rw → Int32) (P Q R : Rw) : dt3 f g h Q P R = - dt3 f g h P Q R := by
  unfold dt3
  generalize f P = a1; generalize f Q = a2; generalize f R = a3; generalize g P = b1; generalize g Q = b2; generalize g R = b3; generalize h P = c1; generalize h Q = c2; generalize h R = c3
  grind
theorem dt3_23 (f g h : Rw → Int32) (P Q R : Rw) : dt3 f g h P R Q = - dt3 f g h P Q R := by
  unfold dt3
  generalize f P = a1; generalize f Q = a2; generalize f R = a3; generalize g P = b1; generalize g Q = b2; generalize g R = b3; generalize h P = c1; generalize h Q = c2; generalize h R = c3
  grind
def Nrm (P : Rw) : Prop := f9 (ra P) ∧ f9 (rb P) ∧ f9 (rc P)
theorem mulb {x y : Int} {m n : Nat} (hx : x.natAbs ≤ m) (hy : y.natAbs ≤ n) : (x * y).natAbs ≤ m * n := by
  rw [Int.natAbs_mul]
  exact Nat.mul_le_mul hx hy
theorem subb {x y : Int} {m n : Nat} (hx : x.natAbs ≤ m) (hy : y.natAbs ≤ n) : (x - y).natAbs ≤ m + n := by omega
theorem addb {x y : Int} {m n : Nat} (hx : x.natAbs ≤ m) (hy : y.natAbs ≤ n) : (x + y).natAbs ≤ m + n := by omega
theorem f9_int {x : Int32} (h : f9 x) : x.toInt.natAbs ≤ 9 := by
  have h1 := Int32.le_iff_toInt_le.mp h.1
  have h2 := Int32.le_iff_toInt_le.mp h.2
  have e1 : ((-9 : Int32)).toInt = -9 := by decide
  have e2 : ((9 : Int32)).toInt = 9 := by decide
  rw [e1] at h1
  rw [e2] at h2
  omega
theorem ofI (x : Int32) : x = Int32.ofInt x.toInt := (Int32.ofInt_toInt x).symm
theorem small_toInt {X : Int} {m : Nat} (h : X.natAbs ≤ m) (hm : m < 2 ^ 31) : (Int32.ofInt X).toInt = X := by
  apply Int32.toInt_ofInt_of_le
  · omega
  · omega
theorem dt3_small {P Q R : Rw} (hP : Nrm P) (hQ : Nrm Q) (hR : Nrm R) : (dt3 ra rb rc P Q R).toInt.natAbs ≤ 4374 := by
  have b := fun {x : Int32} (h : f9 x) => f9_int h
  unfold dt3
  obtain ⟨p1, p2, p3⟩ := hP
  obtain ⟨q1, q2, q3⟩ := hQ
  obtain ⟨r1, r2, r3⟩ := hR
  replace p1 := f9_int p1
  replace p2 := f9_int p2
  replace p3 := f9_int p3
  replace q1 := f9_int q1
  replace q2 := f9_int q2
  replace q3 := f9_int q3
  replace r1 := f9_int r1
  replace r2 := f9_int r2
  replace r3 := f9_int r3
  rw [ofI (ra P), ofI (rb P), ofI (rc P), ofI (ra Q), ofI (rb Q), ofI (rc Q), ofI (ra R), ofI (rb R), ofI (rc R)]
  simp only [← Int32.ofInt_mul, ← Int32.ofInt_sub, ← Int32.ofInt_add]
  have hb := addb (subb (mulb p1 (subb (mulb q2 r3) (mulb r2 q3))) (mulb p2 (subb (mulb q1 r3) (mulb r1 q3)))) (mulb p3 (subb (mulb q1 r2) (mulb r1 q2)))
  rw [small_toInt hb (by decide)]
  exact hb
theorem sgn_neg {D : Int32} (h0 : ¬ D = 0) (hs : D.toInt.natAbs ≤ 4374) : sgn (-D) = - sgn D := by
  have e : (-D).toInt = -D.toInt := by
    rw [ofI D, ← Int32.ofInt_neg, small_toInt (m := 4374) (by omega) (by decide), ← ofI D]
  have h1 : ¬ D.toInt = 0 := fun z => h0 (Int32.toInt_inj.mp (by rw [z]; rfl))
  unfold sgn
  have e0 : ((0 : Int32)).toInt = 0 := by decide
  by_cases c : D < 0
  · have c1 := Int32.lt_iff_toInt_lt.mp c
    rw [if_pos c, if_neg (fun z => by have := Int32.lt_iff_toInt_lt.mp z; rw [e, e0] at this; rw [e0] at c1; omega)]
    rfl
  · have c1 : ¬ D.toInt < (0 : Int32).toInt := fun z => c (Int32.lt_iff_toInt_lt.mpr z)
    rw [if_neg c, if_pos (Int32.lt_iff_toInt_lt.mpr (by rw [e, e0]; rw [e0] at c1; omega))]
abbrev Crn := Int32 × Int32 × Int32 × Int32
def cor (P Q R : Rw) : Crn := (sgn (dt3 ra rb rc P Q R) * dt3 rd rb rc P Q R, sgn (dt3 ra rb rc P Q R) * dt3 ra rd rc P Q R, sgn (dt3 ra rb rc P Q R) * dt3 ra rb rd P Q R, sgn (dt3 ra rb rc P Q R) * dt3 ra rb rc P Q R)
def wthC (c : Crn) : Prop := wth c.1 (20 * c.2.2.2) ∧ wth c.2.1 (20 * c.2.2.2) ∧ wth c.2.2.1 (20 * c.2.2.2)
def T3 (R : Nat → Rw) (c : Crn) (i j k : Nat) : Prop := ¬ dt3 ra rb rc (R i) (R j) (R k) = 0 ∧ cor (R i) (R j) (R k) = c ∧ wthC c
theorem neg_mul2 (a b : Int32) : -a * -b = a * b := by grind
theorem neg_z {a : Int32} : -a = 0 ↔ a = 0 := by
  constructor
  · intro h
    have : a = -(-a) := by grind
    rw [this, h]
    rfl
  · rintro rfl; rfl
theorem T3_12 {R : Nat → Rw} {c : Crn} {i j k : Nat} (hi : Nrm (R i)) (hj : Nrm (R j)) (hk : Nrm (R k)) (h : T3 R c i j k) : T3 R c j i k := by
  obtain ⟨h1, h2, h3⟩ := h
  have hs := dt3_small hi hj hk
  refine ⟨by rw [dt3_12, neg_z]; exact h1, ?_, h3⟩
  rw [← h2]
  unfold cor
  rw [dt3_12 ra rb rc, dt3_12 rd rb rc, dt3_12 ra rd rc, dt3_12 ra rb rd, sgn_neg h1 hs, neg_mul2, neg_mul2, neg_mul2, neg_mul2]
theorem T3_23 {R : Nat → Rw} {c : Crn} {i j k : Nat} (hi : Nrm (R i)) (hj : Nrm (R j)) (hk : Nrm (R k)) (h : T3 R c i j k) : T3 R c i k j := by
  obtain ⟨h1, h2, h3⟩ := h
  have hs := dt3_small hi hj hk
  refine ⟨by rw [dt3_23, neg_z]; exact h1, ?_, h3⟩
  rw [← h2]
  unfold cor
  rw [dt3_23 ra rb rc, dt3_23 rd rb rc, dt3_23 ra rd rc, dt3_23 ra rb rd, sgn_neg h1 hs, neg_mul2, neg_mul2, neg_mul2, neg_mul2]
/-- three planes in whatever order: they stand in the order up, and in the order down -/
theorem T3_up {R : Nat → Rw} {c : Crn} {N : Nat} (hR : ∀ i, i < N → Nrm (R i)) {i j k : Nat} (hi : i < N) (hj : j < N) (hk : k < N) (d1 : i ≠ j) (d2 : i ≠ k) (d3 : j ≠ k) (h : T3 R c i j k) : ∃ p q r, p < q ∧ q < r ∧ r < N ∧ T3 R c p q r := by
  have ni := hR i hi
  have nj := hR j hj
  have nk := hR k hk
  rcases (show (i < j ∧ j < k) ∨ (i < k ∧ k < j) ∨ (j < i ∧ i < k) ∨ (j < k ∧ k < i) ∨ (k < i ∧ i < j) ∨ (k < j ∧ j < i) by omega) with q | q | q | q | q | q
  · exact ⟨i, j, k, q.1, q.2, hk, h⟩
  · exact ⟨i, k, j, q.1, q.2, hj, T3_23 ni nj nk h⟩
  · exact ⟨j, i, k, q.1, q.2, hk, T3_12 ni nj nk h⟩
  · exact ⟨j, k, i, q.1, q.2, hi, T3_23 nj ni nk (T3_12 ni nj nk h)⟩
  · exact ⟨k, i, j, q.1, q.2, hj, T3_12 ni nk nj (T3_23 ni nj nk h)⟩
  · exact ⟨k, j, i, q.1, q.2, hi, T3_12 nj nk ni (T3_23 nj ni nk (T3_12 ni nj nk h))⟩
theorem T3_dn {R : Nat → Rw} {c : Crn} {N : Nat} (hR : ∀ i, i < N → Nrm (R i)) {i j k : Nat} (hi : i < N) (hj : j < N) (hk : k < N) (d1 : i ≠ j) (d2 : i ≠ k) (d3 : j ≠ k) (h : T3 R c i j k) : ∃ p q r, r < q ∧ q < p ∧ p < N ∧ T3 R c p q r := by
  obtain ⟨p, q, r, h1, h2, h3, h4⟩ := T3_up hR hi hj hk d1 d2 d3 h
  have np := hR p (by omega)
  have nq := hR q (by omega)
  have nr := hR r h3
  exact ⟨r, q, p, h1, h2, h3, T3_12 nq nr np (T3_23 nq np nr (T3_12 np nq nr h4))⟩
def RC (A : Nat → Nat → Int32) (p : Nat) : Rw := (A 13 p, A 14 p, A 15 p, A 16 p)
def RQ (A : Nat → Nat → Int32) (i : Nat) : Rw := (A 32 (4 * i), A 32 (4 * i + 1), A 32 (4 * i + 2), A 32 (4 * i + 3))
theorem D0_dt (A : Nat → Nat → Int32) (p q r : Nat) : D0 A p q r = dt3 ra rb rc (RC A p) (RC A q) (RC A r) := rfl
theorem InB_T3 (A : Nat → Nat → Int32) (p q r : Nat) (c : Crn) : T3 (RC A) c p q r ↔ (InB A p q r ∧ (cx A p q r, cy A p q r, cz A p q r, cw A p q r) = c) := by
  constructor
  · rintro ⟨h1, h2, h3⟩
    subst h2
    exact ⟨⟨h1, h3.1, h3.2.1, h3.2.2⟩, rfl⟩
  · rintro ⟨⟨h1, h2, h3, h4⟩, rfl⟩
    exact ⟨h1, rfl, h2, h3, h4⟩
/-! ===== the corners of the class are those of the model ===== -/
def fxi (p : Nat) : Nat := if p < 8 then p + 1 else p - 8
def Fixp (A : Nat → Nat → Int32) : Prop := ∀ p, 5 ≤ p → p < 14 → RC A p = fx9 (fxi p)
def row29 (A : Nat → Nat → Int32) (k : Nat) : Rw := (A 29 (4 * k), A 29 (4 * k + 1), A 29 (4 * k + 2), A 29 (4 * k + 3))
def row3 (A : Nat → Nat → Int32) (k : Nat) : Rw := (A 3 k, A 4 k, A 5 k, A 6 k)
theorem fxi_lt {p : Nat} (h : 5 ≤ p) (h2 : p < 14) : fxi p < 9 := by unfold fxi; split <;> omega
def PlC (A : Nat → Nat → Int32) : Prop := ∀ k, k < 5 → A 13 k = A 3 k ∧ A 14 k = A 4 k ∧ A 15 k = A 5 k ∧ A 16 k = A 6 k
theorem RC_row3 {A : Nat → Nat → Int32} (h : PlC A) {k : Nat} (hk : k < 5) : RC A k = row3 A k := by
  obtain ⟨h1, h2, h3, h4⟩ := h k hk
  unfold RC row3
  rw [h1, h2, h3, h4]
theorem fx9_nrm : ∀ i, i < 9 → Nrm (fx9 i) := by
  intro i hi
  have h : ∀ i, i < 9 → (decide (-9 ≤ (fx9 i).1 ∧ (fx9 i).1 ≤ 9) && decide (-9 ≤ (fx9 i).2.1 ∧ (fx9 i).2.1 ≤ 9) && decide (-9 ≤ (fx9 i).2.2.1 ∧ (fx9 i).2.2.1 ≤ 9)) = true := by decide +kernel
  have := h i hi
  simp only [Bool.and_eq_true, decide_eq_true_eq] at this
  exact ⟨this.1.1, this.1.2, this.2⟩
theorem T3_eq {R R2 : Nat → Rw} {c : Crn} {i j k i2 j2 k2 : Nat} (h1 : R2 i2 = R i) (h2 : R2 j2 = R j) (h3 : R2 k2 = R k) (h : T3 R c i j k) : T3 R2 c i2 j2 k2 := by
  unfold T3 at h ⊢
  rw [h1, h2, h3]
  exact h
def cC (A : Nat → Nat → Int32) (n : Nat) : Crn := (A 17 n, A 18 n, A 19 n, A 20 n)
def cQ (A : Nat → Nat → Int32) (n : Nat) : Crn := (A 33 (4 * n), A 33 (4 * n + 1), A 33 (4 * n + 2), A 33 (4 * n + 3))
theorem crn_T3C {A : Nat → Nat → Int32} {cnt : Nat} (h : CornI A cnt) (c : Crn) : (∃ n, n < cnt ∧ cC A n = c) ↔ ∃ p q r, p < q ∧ q < r ∧ r < 14 ∧ T3 (RC A) c p q r := by
  constructor
  · rintro ⟨n, hn, rfl⟩
    obtain ⟨p, q, r, g1, g2, g3, g4, g5⟩ := h.2 n hn
    refine ⟨p, q, r, g1, g2, g3, (InB_T3 A p q r _).mpr ⟨g4, ?_⟩⟩
    unfold cC
    rw [g5.1, g5.2.1, g5.2.2.1, g5.2.2.2.1]
  · rintro ⟨p, q, r, g1, g2, g3, g4⟩
    obtain ⟨g5, rfl⟩ := (InB_T3 A p q r c).mp g4
    obtain ⟨n, hn, g6⟩ := h.1 p q r g1 g2 g3 g5
    refine ⟨n, hn, ?_⟩
    unfold cC
    rw [g6.1, g6.2.1, g6.2.2.1, g6.2.2.2.1]
end
section
theorem sub_z (x y : Int32) : (1 * x + (-1) * y + 0) = 0 ↔ x = y := by
  constructor
  · intro h
    have : x = (1 * x + (-1) * y + 0) + y := by grind
    rw [this, h]
    grind
  · rintro rfl
    grind
theorem CornI.sd {A : Nat → Nat → Int32} {cnt : Nat} (h : CornI A cnt) : ∀ n, n < cnt → Sd A n := by
  intro n hn
  obtain ⟨p, q, r, -, -, -, -, g1, g2, g3, g4, g5⟩ := h.2 n hn
  unfold Sd
  rw [g1, g2, g3, g4]
  exact g5
def fo4 (A : Nat → Nat → Int32) (c : Crn) : Nat → Int32 := fov A c.1 c.2.1 c.2.2.1 c.2.2.2
theorem exc {A : Nat → Nat → Int32} {cnt cnt2 : Nat} (h : ∀ c, (∃ n, n < cnt ∧ cC A n = c) ↔ ∃ n, n < cnt2 ∧ cQ A n = c) (F : Crn → Prop) : (∃ n, n < cnt ∧ F (cC A n)) ↔ ∃ n, n < cnt2 ∧ F (cQ A n) := by
  constructor
  · rintro ⟨n, h1, h2⟩
    obtain ⟨m, h3, h4⟩ := (h _).mp ⟨n, h1, rfl⟩
    exact ⟨m, h3, by rw [h4]; exact h2⟩
  · rintro ⟨n, h1, h2⟩
    obtain ⟨m, h3, h4⟩ := (h _).mpr ⟨n, h1, rfl⟩
    exact ⟨m, h3, by rw [h4]; exact h2⟩
theorem SidS_x {A : Nat → Nat → Int32} {cnt cnt2 : Nat} (h : ∀ c, (∃ n, n < cnt ∧ cC A n = c) ↔ ∃ n, n < cnt2 ∧ cQ A n = c) (s p : Nat) (P : Crn → Prop) : SidS A s p (vC A) (fun n => P (cC A n)) cnt ↔ SidS A s p (vQ A) (fun n => P (cQ A n)) cnt2 := by
  have e1 := fun k => exc h (fun c => P c ∧ 0 < fo4 A c k)
  have e2 := fun k => exc h (fun c => P c ∧ ¬ fo4 A c k = 0)
  unfold SidS
  exact and_congr ⟨fun hh k q1 q2 q3 => (e1 k).mp (hh k q1 q2 q3), fun hh k q1 q2 q3 => (e1 k).mpr (hh k q1 q2 q3)⟩ (and_congr ⟨fun hh k q1 q2 q3 => (e2 k).mp (hh k q1 q2 q3), fun hh k q1 q2 q3 => (e2 k).mpr (hh k q1 q2 q3)⟩ ⟨fun hh t q1 q2 => (e2 (5 + t)).mp (hh t q1 q2), fun hh t q1 q2 => (e2 (5 + t)).mpr (hh t q1 q2)⟩)
section BTH
variable {A : Nat → Nat → Int32} {dm ncl cnt cnt2 : Nat}
end BTH

/-! ===== fractions of corners ===== -/
def nm (a b c : Int32) (q : Crn) : Int := a.toInt * q.1.toInt + b.toInt * q.2.1.toInt + c.toInt * q.2.2.1.toInt
def dn (q : Crn) : Int := q.2.2.2.toInt
def CB (q : Crn) : Prop := 0 < dn q ∧ dn q ≤ 4374 ∧ q.1.toInt.natAbs ≤ 87480 ∧ q.2.1.toInt.natAbs ≤ 87480 ∧ q.2.2.1.toInt.natAbs ≤ 87480
def lq (a b c : Int32) (q r : Crn) : Prop := nm a b c q * dn r ≤ nm a b c r * dn q
theorem lq_tr {a b c : Int32} {p q r : Crn} (hq : 0 < dn q) (hp : 0 < dn p) (hr : 0 < dn r) (h1 : lq a b c p q) (h2 : lq a b c q r) : lq a b c p r := by
  unfold lq at h1 h2 ⊢
  generalize nm a b c p = x at *
  generalize nm a b c q = y at *
  generalize nm a b c r = z at *
  have e1 := Int.mul_le_mul_of_nonneg_right h1 (Int.le_of_lt hr)
  have e2 := Int.mul_le_mul_of_nonneg_right h2 (Int.le_of_lt hp)
  have e3 : (x * dn r) * dn q ≤ (z * dn p) * dn q := by
    have f1 : x * dn r * dn q = x * dn q * dn r := by grind
    have f2 : z * dn p * dn q = z * dn q * dn p := by grind
    have f3 : y * dn p * dn r = y * dn r * dn p := by grind
    omega
  exact Int.le_of_mul_le_mul_right e3 hq
theorem lq_tot (a b c : Int32) (q r : Crn) : lq a b c q r ∨ lq a b c r q := Int.le_total _ _
theorem lq_rf (a b c : Int32) (q : Crn) : lq a b c q q := Int.le_refl _
def N6 (a b c : Int32) (q : Crn) : Int64 := Int64.ofInt (nm a b c q)
def W6 (q : Crn) : Int64 := Int64.ofInt (dn q)
theorem nm_b {a b c : Int32} {q : Crn} (hf : f9 a ∧ f9 b ∧ f9 c) (h : CB q) : (nm a b c q).natAbs ≤ 2361960 := by
  have h1 := mulb (f9_int hf.1) h.2.2.1
  have h2 := mulb (f9_int hf.2.1) h.2.2.2.1
  have h3 := mulb (f9_int hf.2.2) h.2.2.2.2
  exact addb (addb h1 h2) h3
theorem s64 {X : Int} {m : Nat} (h : X.natAbs ≤ m) (hm : m < 2 ^ 62) : (Int64.ofInt X).toInt = X := by
  apply Int64.toInt_ofInt_of_le
  · omega
  · omega
theorem to64 (x : Int32) : x.toInt64 = Int64.ofInt x.toInt := by
  apply Int64.toInt_inj.mp
  rw [Int32.toInt_toInt64, s64 (m := 2 ^ 31) _ (by decide)]
  have h1 := Int32.toInt_lt x
  have h2 := Int32.le_toInt x
  omega
theorem vS_N {A : Nat → Nat → Int32} (a b c : Int32) (n : Nat) : vS A a b c n = N6 a b c (cC A n) ∧ dS A n = W6 (cC A n) := by
  unfold vS dS N6 W6 nm dn cC
  simp only [to64, ← Int64.ofInt_mul, ← Int64.ofInt_add]
  exact ⟨trivial, trivial⟩
theorem cross {a b c : Int32} {q r : Crn} (hf : f9 a ∧ f9 b ∧ f9 c) (hq : CB q) (hr : CB r) : (N6 a b c q * W6 r).toInt = nm a b c q * dn r := by
  unfold N6 W6
  rw [← Int64.ofInt_mul]
  have h1 := nm_b hf hq
  have h2 : (dn r).natAbs ≤ 4374 := by have := hr.1; have := hr.2.1; omega
  exact s64 (mulb h1 h2) (by decide)
theorem W6_ne {q : Crn} (h : CB q) : ¬ W6 q = 0 := by
  intro z
  have h2 : (dn q).natAbs ≤ 4374 := by have := h.1; have := h.2.1; omega
  have e : (W6 q).toInt = dn q := s64 h2 (by decide)
  rw [z] at e
  have := h.1
  rw [← e] at this
  exact absurd this (by decide)
theorem W6_pos {q : Crn} (h : CB q) : (0 : Int64) < W6 q := by
  have h2 : (dn q).natAbs ≤ 4374 := by have := h.1; have := h.2.1; omega
  have e : (W6 q).toInt = dn q := s64 h2 (by decide)
  apply Int64.lt_iff_toInt_lt.mpr
  rw [e]
  exact h.1
theorem cr_lt {a b c : Int32} {q r : Crn} (hf : f9 a ∧ f9 b ∧ f9 c) (hq : CB q) (hr : CB r) : N6 a b c q * W6 r < N6 a b c r * W6 q ↔ ¬ lq a b c r q := by
  rw [Int64.lt_iff_toInt_lt, cross hf hq hr, cross hf hr hq]
  unfold lq
  exact Int.not_le.symm
theorem ord_gt {a b c : Int32} {q r : Crn} (hf : f9 a ∧ f9 b ∧ f9 c) (hq : CB q) (hr : CB r) : (0 < ord (N6 a b c q) (W6 q) (N6 a b c r) (W6 r) ↔ ¬ lq a b c q r) ∧ (ord (N6 a b c q) (W6 q) (N6 a b c r) (W6 r) = 0 ↔ (lq a b c q r ∧ lq a b c r q)) := by
  have e : (ord (N6 a b c q) (W6 q) (N6 a b c r) (W6 r)).toInt = nm a b c q * dn r - nm a b c r * dn q := by
    unfold ord
    rw [if_neg (W6_ne hr)]
    unfold N6 W6
    rw [← Int64.ofInt_mul, ← Int64.ofInt_mul, ← Int64.ofInt_sub]
    have h1 := nm_b hf hq
    have h2 : (dn r).natAbs ≤ 4374 := by have := hr.1; have := hr.2.1; omega
    have h3 := nm_b hf hr
    have h4 : (dn q).natAbs ≤ 4374 := by have := hq.1; have := hq.2.1; omega
    exact s64 (subb (mulb h1 h2) (mulb h3 h4)) (by decide)
  have e0 : (0 : Int64).toInt = 0 := by decide
  unfold lq
  constructor
  · rw [Int64.lt_iff_toInt_lt, e, e0]
    omega
  · rw [← Int64.toInt_inj, e, e0]
    omega
/-- reduced -/
theorem red_eq {x y : Int} {u v : Nat} (hu : u ≠ 0) (hv : v ≠ 0) (h : x * v = y * u) : x / (x.natAbs.gcd u : Int) = y / (y.natAbs.gcd v : Int) ∧ u / x.natAbs.gcd u = v / y.natAbs.gcd v := by
  have := (Rat.normalize_eq_iff hu hv).mpr h
  rw [Rat.normalize_eq, Rat.normalize_eq] at this
  injection this with h1 h2
  exact ⟨h1, h2⟩

theorem T3_CB {R : Nat → Rw} {c : Crn} {i j k : Nat} (hi : Nrm (R i)) (hj : Nrm (R j)) (hk : Nrm (R k)) (h : T3 R c i j k) : CB c := by
  obtain ⟨h1, h2, h3⟩ := h
  have hs := dt3_small hi hj hk
  have hw : c.2.2.2 = sgn (dt3 ra rb rc (R i) (R j) (R k)) * dt3 ra rb rc (R i) (R j) (R k) := by rw [← h2]; rfl
  generalize dt3 ra rb rc (R i) (R j) (R k) = D at h1 hs hw
  have h0 : ¬ D.toInt = 0 := fun z => h1 (Int32.toInt_inj.mp (by rw [z]; rfl))
  have e0 : ((0 : Int32)).toInt = 0 := by decide
  have en : (-D).toInt = -D.toInt := by
    rw [ofI D, ← Int32.ofInt_neg, small_toInt (m := 4374) (by omega) (by decide), ← ofI D]
  have hd : dn c = D.toInt.natAbs := by
    unfold dn
    rw [hw]
    unfold sgn
    by_cases q : D < 0
    · have q1 := Int32.lt_iff_toInt_lt.mp q
      rw [if_pos q, show (-1 : Int32) * D = -D by grind, en]
      omega
    · have q1 : ¬ D.toInt < (0 : Int32).toInt := fun z => q (Int32.lt_iff_toInt_lt.mpr z)
      rw [if_neg q, show (1 : Int32) * D = D by grind]
      omega
  have e20 : (20 * c.2.2.2).toInt = 20 * dn c := by
    have hw4 : (dn c).natAbs ≤ 4374 := by omega
    have : (20 * c.2.2.2 : Int32) = Int32.ofInt (20 * dn c) := by
      unfold dn
      rw [Int32.ofInt_mul, Int32.ofInt_toInt]
      rfl
    rw [this, small_toInt (m := 20 * 4374) (by omega) (by decide)]
  have en20 : (-(20 * c.2.2.2)).toInt = -(20 * dn c) := by
    rw [ofI (20 * c.2.2.2), ← Int32.ofInt_neg, small_toInt (m := 20 * 4374) (by rw [e20]; omega) (by decide), e20]
  have wb : ∀ v, wth v (20 * c.2.2.2) → v.toInt.natAbs ≤ 87480 := fun v hv => by
    have g1 := Int32.le_iff_toInt_le.mp hv.1
    have g2 := Int32.le_iff_toInt_le.mp hv.2
    rw [en20] at g1
    rw [e20] at g2
    omega
  exact ⟨by omega, by omega, wb _ h3.1, wb _ h3.2.1, wb _ h3.2.2⟩
/-- the largest fraction among the corners that fit, and their sides there -/
def CcI (A : Nat → Nat → Int32) (a b c : Int32) (P : Nat → Prop) (k : Nat) (t : Tr) : Prop := ((∀ n, n < k → ¬ P n) ∧ t = (0, 0, 0)) ∨ ∃ m, m < k ∧ P m ∧ t.1 = N6 a b c (cC A m) ∧ t.2.1 = W6 (cC A m) ∧ (∀ n, n < k → P n → lq a b c (cC A n) (cC A m)) ∧ ∀ i, i < 32 → (tb t.2.2 i = true ↔ ∃ n, n < k ∧ P n ∧ lq a b c (cC A m) (cC A n) ∧ tb (A 21 n) i = true)
theorem CcI.cc {A : Nat → Nat → Int32} {a b c : Int32} (hf : f9 a ∧ f9 b ∧ f9 c) {cnt : Nat} (hB : ∀ n, n < cnt → CB (cC A n)) (nd : Int32) : ∀ k, k ≤ cnt → CcI A a b c (fit A nd) k (ccf A a b c nd k) := by
  intro k
  induction k with
  | zero => intro _; exact Or.inl ⟨fun n hn => by omega, rfl⟩
  | succ k ih =>
    intro hk
    have ih := ih (by omega)
    have bk := hB k (by omega)
    rcases Classical.em (fit A nd k) with q | q
    · rw [ccf_t q, (vS_N a b c k).1, (vS_N a b c k).2]
      rcases ih with ⟨h1, h2⟩ | ⟨m, g1, g2, g3, g4, g5, g6⟩
      · rw [h2]
        refine Or.inr ⟨k, by omega, q, ?_⟩
        have e : ccn (0, 0, 0) (N6 a b c (cC A k)) (W6 (cC A k)) (A 21 k) = (N6 a b c (cC A k), W6 (cC A k), A 21 k) := by
          unfold ccn ord
          rw [if_pos rfl, if_pos (by decide)]
        rw [e]
        refine ⟨rfl, rfl, fun n hn hp => ?_, fun i hi => ?_⟩
        · by_cases e : n = k
          · subst e; exact lq_rf _ _ _ _
          · exact absurd hp (h1 n (by omega))
        · constructor
          · exact fun z => ⟨k, by omega, q, lq_rf _ _ _ _, z⟩
          · rintro ⟨n, z1, z2, z3, z4⟩
            by_cases e : n = k
            · subst e; exact z4
            · exact absurd z2 (h1 n (by omega))
      · have bm := hB m (by omega)
        have o := ord_gt (a := a) (b := b) (c := c) hf bk bm
        unfold ccn
        rw [g3, g4]
        by_cases c1 : 0 < ord (N6 a b c (cC A k)) (W6 (cC A k)) (N6 a b c (cC A m)) (W6 (cC A m))
        · rw [if_pos c1]
          have n1 := o.1.mp c1
          have n2 : lq a b c (cC A m) (cC A k) := (lq_tot a b c _ _).resolve_left n1
          refine Or.inr ⟨k, by omega, q, rfl, rfl, fun n hn hp => ?_, fun i hi => ?_⟩
          · by_cases e : n = k
            · subst e; exact lq_rf _ _ _ _
            · exact lq_tr bm.1 (hB n (by omega)).1 bk.1 (g5 n (by omega) hp) n2
          · constructor
            · exact fun z => ⟨k, by omega, q, lq_rf _ _ _ _, z⟩
            · rintro ⟨n, z1, z2, z3, z4⟩
              by_cases e : n = k
              · subst e; exact z4
              · exact absurd (lq_tr (hB n (by omega)).1 bk.1 bm.1 z3 (g5 n (by omega) z2)) n1
        · rw [if_neg c1]
          have n1 : lq a b c (cC A k) (cC A m) := Classical.byContradiction fun z => c1 (o.1.mpr z)
          by_cases c2 : ord (N6 a b c (cC A k)) (W6 (cC A k)) (N6 a b c (cC A m)) (W6 (cC A m)) = 0
          · rw [if_pos c2]
            have n2 := (o.2.mp c2).2
            refine Or.inr ⟨m, by omega, g2, rfl, rfl, fun n hn hp => ?_, fun i hi => ?_⟩
            · by_cases e : n = k
              · subst e; exact n1
              · exact g5 n (by omega) hp
            · show tb (_ ||| A 21 k) i = true ↔ _
              rw [tb_or, Bool.or_eq_true, g6 i hi]
              constructor
              · rintro (⟨n, z1, z2⟩ | z)
                · exact ⟨n, by omega, z2⟩
                · exact ⟨k, by omega, q, n2, z⟩
              · rintro ⟨n, z1, z2, z3, z4⟩
                by_cases e : n = k
                · subst e; exact Or.inr z4
                · exact Or.inl ⟨n, by omega, z2, z3, z4⟩
          · rw [if_neg c2]
            have n2 : ¬ lq a b c (cC A m) (cC A k) := fun z => c2 (o.2.mpr ⟨n1, z⟩)
            refine Or.inr ⟨m, by omega, g2, g3, g4, fun n hn hp => ?_, fun i hi => ?_⟩
            · by_cases e : n = k
              · subst e; exact n1
              · exact g5 n (by omega) hp
            · rw [g6 i hi]
              constructor
              · rintro ⟨n, z1, z2⟩; exact ⟨n, by omega, z2⟩
              · rintro ⟨n, z1, z2, z3, z4⟩
                by_cases e : n = k
                · subst e; exact absurd z3 n2
                · exact ⟨n, by omega, z2, z3, z4⟩
    · rw [ccf_f q]
      rcases ih with ⟨h1, h2⟩ | ⟨m, g1, g2, g3, g4, g5, g6⟩
      · refine Or.inl ⟨fun n hn => ?_, h2⟩
        by_cases e : n = k
        · subst e; exact q
        · exact h1 n (by omega)
      · refine Or.inr ⟨m, by omega, g2, g3, g4, fun n hn hp => ?_, fun i hi => ?_⟩
        · by_cases e : n = k
          · subst e; exact absurd hp q
          · exact g5 n (by omega) hp
        · rw [g6 i hi]
          constructor
          · rintro ⟨n, z1, z2⟩; exact ⟨n, by omega, z2⟩
          · rintro ⟨n, z1, z2, z3, z4⟩
            by_cases e : n = k
            · subst e; exact absurd z2 q
            · exact ⟨n, by omega, z2, z3, z4⟩
/-- the cells looked at are those of K: the largest fraction of all, and whether it is reached -/
def Fts (A : Nat → Nat → Int32) (s p n : Nat) : Prop := FitS A s p (vC A n)
def Rea (A : Nat → Nat → Int32) (a b c : Int32) (cnt m s p : Nat) : Prop := (∃ n, n < cnt ∧ (Fts A s p n ∧ lq a b c (cC A m) (cC A n))) ∧ SidS A s p (vC A) (fun n => Fts A s p n ∧ lq a b c (cC A m) (cC A n)) cnt
def PkI (A : Nat → Nat → Int32) (a b c : Int32) (cnt : Nat) (K : Nat → Nat → Prop) (t : Tr) : Prop := ((∀ s p, K s p → ∀ n, n < cnt → ¬ Fts A s p n) ∧ t = (0, 0, 0)) ∨ ∃ m, m < cnt ∧ (∃ s p, K s p ∧ Fts A s p m) ∧ t.1 = N6 a b c (cC A m) ∧ t.2.1 = W6 (cC A m) ∧ (∀ s p, K s p → ∀ n, n < cnt → Fts A s p n → lq a b c (cC A n) (cC A m)) ∧ (t.2.2 = 0 ∨ t.2.2 = 1) ∧ (t.2.2 = 1 ↔ ∃ s p, K s p ∧ Rea A a b c cnt m s p)
theorem Rea_eq {A : Nat → Nat → Int32} {a b c : Int32} {cnt : Nat} (hB : ∀ n, n < cnt → CB (cC A n)) {m m2 : Nat} (hm : m < cnt) (hm2 : m2 < cnt) (h1 : lq a b c (cC A m) (cC A m2)) (h2 : lq a b c (cC A m2) (cC A m)) (s p : Nat) : Rea A a b c cnt m s p ↔ Rea A a b c cnt m2 s p := by
  have e : ∀ n, n < cnt → ((Fts A s p n ∧ lq a b c (cC A m) (cC A n)) ↔ (Fts A s p n ∧ lq a b c (cC A m2) (cC A n))) := fun n hn => and_congr Iff.rfl ⟨fun z => lq_tr (hB m hm).1 (hB m2 hm2).1 (hB n hn).1 h2 z, fun z => lq_tr (hB m2 hm2).1 (hB m hm).1 (hB n hn).1 h1 z⟩
  unfold Rea
  exact and_congr ⟨fun ⟨n, z1, z2⟩ => ⟨n, z1, (e n z1).mp z2⟩, fun ⟨n, z1, z2⟩ => ⟨n, z1, (e n z1).mpr z2⟩⟩ (SidS_P e)
/-- no corner of the cell comes up to m -/
theorem Rea_no {A : Nat → Nat → Int32} {a b c : Int32} {cnt m s p : Nat} (h : ∀ n, n < cnt → Fts A s p n → ¬ lq a b c (cC A m) (cC A n)) : ¬ Rea A a b c cnt m s p := by
  rintro ⟨⟨n, z1, z2, z3⟩, -⟩
  exact h n z1 z2 z3
theorem PkI.inc {A : Nat → Nat → Int32} {a b c : Int32} (hf : f9 a ∧ f9 b ∧ f9 c) {cnt : Nat} (hB : ∀ n, n < cnt → CB (cC A n)) (hS : ∀ n, n < cnt → Sd A n) {K K2 : Nat → Nat → Prop} {t : Tr} {s p : Nat} (h : PkI A a b c cnt K t) (hK : ∀ s2 p2, K2 s2 p2 ↔ (K s2 p2 ∨ (s2 = s ∧ p2 = p))) : PkI A a b c cnt K2 (incf t (ccf A a b c (ndc A s p) cnt) (sgc A s p)) := by
  have hcc := CcI.cc hf hB (ndc A s p) cnt (Nat.le_refl _)
  generalize ccf A a b c (ndc A s p) cnt = cc at hcc
  have fi : ∀ n, n < cnt → (fit A (ndc A s p) n ↔ Fts A s p n) := fun n hn => fit_iff (hS n hn) s p
  rcases hcc with ⟨h1, rfl⟩ | ⟨m, g1, g2, g3, g4, g5, g6⟩
  · unfold incf
    rw [if_pos rfl]
    have no : ∀ n, n < cnt → ¬ Fts A s p n := fun n hn z => h1 n hn ((fi n hn).mpr z)
    rcases h with ⟨e1, e2⟩ | ⟨m, e1, e2, e3, e4, e5, e6, e7⟩
    · refine Or.inl ⟨fun s2 p2 hk n hn => ?_, e2⟩
      rcases (hK s2 p2).mp hk with z | ⟨rfl, rfl⟩
      · exact e1 s2 p2 z n hn
      · exact no n hn
    · obtain ⟨s0, p0, k0, k1⟩ := e2
      refine Or.inr ⟨m, e1, ⟨s0, p0, (hK _ _).mpr (Or.inl k0), k1⟩, e3, e4, fun s2 p2 hk n hn hp => ?_, e6, ?_⟩
      · rcases (hK s2 p2).mp hk with z | ⟨rfl, rfl⟩
        · exact e5 s2 p2 z n hn hp
        · exact absurd hp (no n hn)
      · rw [e7]
        constructor
        · rintro ⟨s2, p2, z1, z2⟩; exact ⟨s2, p2, (hK _ _).mpr (Or.inl z1), z2⟩
        · rintro ⟨s2, p2, z1, z2⟩
          rcases (hK s2 p2).mp z1 with z | ⟨rfl, rfl⟩
          · exact ⟨s2, p2, z, z2⟩
          · exact absurd z2 (Rea_no (fun n hn hp => absurd hp (no n hn)))
  · have bm := hB m g1
    have fm := (fi m g1).mp g2
    -- the sides of the cell cover what it seeks
    have hcov : ((cc.2.2 &&& sgc A s p) = sgc A s p) ↔ Rea A a b c cnt m s p := by
      rw [sub_iff]
      have e := sg_iff hS s p (fun n => Fts A s p n ∧ lq a b c (cC A m) (cC A n))
      have e1 : (∀ i, i < 32 → tb (sgc A s p) i = true → tb cc.2.2 i = true) ↔ SidS A s p (vC A) (fun n => Fts A s p n ∧ lq a b c (cC A m) (cC A n)) cnt := by
        rw [← e]
        constructor
        · intro hh i hi hb
          obtain ⟨n, z1, z2, z3, z4⟩ := (g6 i hi).mp (hh i hi hb)
          exact ⟨n, z1, ⟨(fi n z1).mp z2, z3⟩, z4⟩
        · intro hh i hi hb
          obtain ⟨n, z1, ⟨z2, z3⟩, z4⟩ := hh i hi hb
          exact (g6 i hi).mpr ⟨n, z1, (fi n z1).mpr z2, z3, z4⟩
      rw [e1]
      exact ⟨fun z => ⟨⟨m, g1, fm, lq_rf _ _ _ _⟩, z⟩, fun z => z.2⟩
    have top : ∀ n, n < cnt → Fts A s p n → lq a b c (cC A n) (cC A m) := fun n hn hp => g5 n hn ((fi n hn).mpr hp)
    unfold incf
    rw [if_neg (by rw [g4]; exact W6_ne bm), g3, g4]
    rcases h with ⟨e1, rfl⟩ | ⟨m0, e1, e2, e3, e4, e5, e6, e7⟩
    · have o1 : 0 < ord (N6 a b c (cC A m)) (W6 (cC A m)) 0 0 := by
        unfold ord
        rw [if_pos rfl]
        decide
      rw [if_pos o1]
      refine Or.inr ⟨m, g1, ⟨s, p, (hK _ _).mpr (Or.inr ⟨rfl, rfl⟩), fm⟩, rfl, rfl, fun s2 p2 hk n hn hp => ?_, ?_, ?_⟩
      · rcases (hK s2 p2).mp hk with z | ⟨rfl, rfl⟩
        · exact absurd hp (e1 s2 p2 z n hn)
        · exact top n hn hp
      · show (if _ then (1 : Int32) else 0) = 0 ∨ (if _ then (1 : Int32) else 0) = 1
        split
        · exact Or.inr rfl
        · exact Or.inl rfl
      · show (if _ then (1 : Int32) else 0) = 1 ↔ _
        constructor
        · intro z
          split at z
          · rename_i zz
            exact ⟨s, p, (hK _ _).mpr (Or.inr ⟨rfl, rfl⟩), hcov.mp zz⟩
          · cases z
        · rintro ⟨s2, p2, z1, z2⟩
          rcases (hK s2 p2).mp z1 with z | ⟨rfl, rfl⟩
          · exact absurd z2 (Rea_no (fun n hn hp => absurd hp (e1 s2 p2 z n hn)))
          · rw [if_pos (hcov.mpr z2)]
    · have b0 := hB m0 e1
      have o := ord_gt (a := a) (b := b) (c := c) hf bm b0
      obtain ⟨s0, p0, k0, k1⟩ := e2
      rw [e3, e4]
      by_cases c1 : 0 < ord (N6 a b c (cC A m)) (W6 (cC A m)) (N6 a b c (cC A m0)) (W6 (cC A m0))
      · rw [if_pos c1]
        have n1 := o.1.mp c1
        have n2 : lq a b c (cC A m0) (cC A m) := (lq_tot a b c _ _).resolve_left n1
        refine Or.inr ⟨m, g1, ⟨s, p, (hK _ _).mpr (Or.inr ⟨rfl, rfl⟩), fm⟩, rfl, rfl, fun s2 p2 hk n hn hp => ?_, ?_, ?_⟩
        · rcases (hK s2 p2).mp hk with z | ⟨rfl, rfl⟩
          · exact lq_tr b0.1 (hB n hn).1 bm.1 (e5 s2 p2 z n hn hp) n2
          · exact top n hn hp
        · show (if _ then (1 : Int32) else 0) = 0 ∨ (if _ then (1 : Int32) else 0) = 1
          split
          · exact Or.inr rfl
          · exact Or.inl rfl
        · show (if _ then (1 : Int32) else 0) = 1 ↔ _
          constructor
          · intro z
            split at z
            · rename_i zz
              exact ⟨s, p, (hK _ _).mpr (Or.inr ⟨rfl, rfl⟩), hcov.mp zz⟩
            · cases z
          · rintro ⟨s2, p2, z1, z2⟩
            rcases (hK s2 p2).mp z1 with z | ⟨rfl, rfl⟩
            · exact absurd z2 (Rea_no (fun n hn hp zz => n1 (lq_tr (hB n hn).1 bm.1 b0.1 zz (e5 s2 p2 z n hn hp))))
            · rw [if_pos (hcov.mpr z2)]
      · rw [if_neg c1]
        have n1 : lq a b c (cC A m) (cC A m0) := Classical.byContradiction fun z => c1 (o.1.mpr z)
        have all : ∀ s2 p2, K2 s2 p2 → ∀ n, n < cnt → Fts A s2 p2 n → lq a b c (cC A n) (cC A m0) := fun s2 p2 hk n hn hp => by
          rcases (hK s2 p2).mp hk with z | ⟨rfl, rfl⟩
          · exact e5 s2 p2 z n hn hp
          · exact lq_tr bm.1 (hB n hn).1 b0.1 (top n hn hp) n1
        by_cases c2 : ord (N6 a b c (cC A m)) (W6 (cC A m)) (N6 a b c (cC A m0)) (W6 (cC A m0)) = 0
        · rw [if_pos c2]
          have n2 := (o.2.mp c2).2
          have rq := Rea_eq hB g1 e1 n1 n2 s p
          refine Or.inr ⟨m0, e1, ⟨s0, p0, (hK _ _).mpr (Or.inl k0), k1⟩, rfl, rfl, all, ?_, ?_⟩
          · show (if _ then (1 : Int32) else 0) = 0 ∨ (if _ then (1 : Int32) else 0) = 1
            split
            · exact Or.inr rfl
            · exact Or.inl rfl
          · show (if _ then (1 : Int32) else 0) = 1 ↔ _
            have e6' : ¬ t.2.2 = 0 ↔ t.2.2 = 1 := ⟨fun z => e6.resolve_left z, fun z => by rw [z]; decide⟩
            constructor
            · intro z
              split at z
              · rename_i zz
                rcases zz with zz | zz
                · obtain ⟨s2, p2, y1, y2⟩ := e7.mp (e6'.mp zz)
                  exact ⟨s2, p2, (hK _ _).mpr (Or.inl y1), y2⟩
                · exact ⟨s, p, (hK _ _).mpr (Or.inr ⟨rfl, rfl⟩), rq.mp (hcov.mp zz)⟩
              · cases z
            · rintro ⟨s2, p2, z1, z2⟩
              rcases (hK s2 p2).mp z1 with z | ⟨rfl, rfl⟩
              · rw [if_pos (Or.inl (e6'.mpr (e7.mpr ⟨s2, p2, z, z2⟩)))]
              · rw [if_pos (Or.inr (hcov.mpr (rq.mpr z2)))]
        · rw [if_neg c2]
          have n2 : ¬ lq a b c (cC A m0) (cC A m) := fun z => c2 (o.2.mpr ⟨n1, z⟩)
          refine Or.inr ⟨m0, e1, ⟨s0, p0, (hK _ _).mpr (Or.inl k0), k1⟩, e3, e4, all, e6, ?_⟩
          rw [e7]
          constructor
          · rintro ⟨s2, p2, z1, z2⟩; exact ⟨s2, p2, (hK _ _).mpr (Or.inl z1), z2⟩
          · rintro ⟨s2, p2, z1, z2⟩
            rcases (hK s2 p2).mp z1 with z | ⟨rfl, rfl⟩
            · exact ⟨s2, p2, z, z2⟩
            · exact absurd z2 (Rea_no (fun n hn hp zz => n2 (lq_tr (hB n hn).1 b0.1 bm.1 zz (top n hn hp))))
end
section
/-! ===== the largest value: one on both sides ===== -/
def Cel (A : Nat → Nat → Int32) (dm ncl : Nat) (s p : Nat) : Prop := s < 32 ∧ p < 5 ∧ Wd A dm ncl s ∧ ¬ A 23 (s * 5 + p) = 0
theorem PkI.K {A : Nat → Nat → Int32} {a b c : Int32} {cnt : Nat} {K K2 : Nat → Nat → Prop} {t : Tr} (h : PkI A a b c cnt K t) (e : ∀ s p, K s p ↔ K2 s p) : PkI A a b c cnt K2 t := by
  have : K = K2 := by
    funext s p
    exact propext (e s p)
  rw [← this]
  exact h
theorem CornI.cb {A : Nat → Nat → Int32} {cnt : Nat} (h : CornI A cnt) (hn : ∀ p, p < 14 → Nrm (RC A p)) : ∀ n, n < cnt → CB (cC A n) := by
  intro n hn2
  obtain ⟨p, q, r, g1, g2, g3, g4⟩ := (crn_T3C h (cC A n)).mp ⟨n, hn2, rfl⟩
  exact T3_CB (hn p (by omega)) (hn q (by omega)) (hn r g3) g4
section MOST
variable {A : Nat → Nat → Int32} {dm ncl cnt cnt2 : Nat} {a b c : Int32}
theorem pks_I (hf : f9 a ∧ f9 b ∧ f9 c) (hC : CacheI A cnt) (hB : ∀ n, n < cnt → CB (cC A n)) {K0 : Nat → Nat → Prop} {t : Tr} (h : PkI A a b c cnt K0 t) {s : Nat} (hs : s < 32) : ∀ P, P ≤ 5 → PkI A a b c cnt (fun s2 p2 => K0 s2 p2 ∨ (s2 = s ∧ p2 < P ∧ ¬ A 23 (s * 5 + p2) = 0)) (pks A a b c cnt t s P) := by
  intro P
  induction P with
  | zero => exact fun _ => h.K fun s2 p2 => ⟨Or.inl, fun z => z.elim id fun z2 => absurd z2.2.1 (by omega)⟩
  | succ P ih =>
    intro hP
    have ih := ih (by omega)
    rcases Classical.em (¬ A 23 (s * 5 + P) = 0) with q | q
    · rw [pks_t q, (hC.2.2.2.2 s P hs (by omega)).1, (hC.2.2.2.2 s P hs (by omega)).2.1]
      refine ih.inc hf hB hC.2.2.2.1.sd fun s2 p2 => ?_
      constructor
      · rintro (z | ⟨rfl, z1, z2⟩)
        · exact Or.inl (Or.inl z)
        · by_cases e : p2 = P
          · exact Or.inr ⟨rfl, e⟩
          · exact Or.inl (Or.inr ⟨rfl, by omega, z2⟩)
      · rintro ((z | ⟨rfl, z1, z2⟩) | ⟨rfl, rfl⟩)
        · exact Or.inl z
        · exact Or.inr ⟨rfl, by omega, z2⟩
        · exact Or.inr ⟨rfl, by omega, q⟩
    · rw [pks_f q]
      refine ih.K fun s2 p2 => ?_
      constructor
      · rintro (z | ⟨rfl, z1, z2⟩)
        · exact Or.inl z
        · exact Or.inr ⟨rfl, by omega, z2⟩
      · rintro (z | ⟨rfl, z1, z2⟩)
        · exact Or.inl z
        · by_cases e : p2 = P
          · subst e; exact absurd z2 q
          · exact Or.inr ⟨rfl, by omega, z2⟩
theorem pkw_I (hf : f9 a ∧ f9 b ∧ f9 c) (hC : CacheI A cnt) (hB : ∀ n, n < cnt → CB (cC A n)) : ∀ S, S ≤ 32 → PkI A a b c cnt (fun s p => Cel A dm ncl s p ∧ s < S) (pkw A a b c dm ncl cnt S) := by
  intro S
  induction S with
  | zero => exact fun _ => Or.inl ⟨fun s p h => absurd h.2 (by omega), rfl⟩
  | succ S ih =>
    intro hS
    have ih := ih (by omega)
    rcases Classical.em (Wd A dm ncl S) with q | q
    · rw [pkw_t q]
      refine (pks_I hf hC hB ih (s := S) (by omega) 5 (by omega)).K fun s p => ?_
      constructor
      · rintro (⟨z1, z2⟩ | ⟨rfl, z1, z2⟩)
        · exact ⟨z1, by omega⟩
        · exact ⟨⟨by omega, z1, q, z2⟩, by omega⟩
      · rintro ⟨z1, z2⟩
        by_cases e : s = S
        · subst e; exact Or.inr ⟨rfl, z1.2.1, z1.2.2.2⟩
        · exact Or.inl ⟨z1, by omega⟩
    · rw [pkw_f q]
      refine ih.K fun s p => ?_
      constructor
      · rintro ⟨z1, z2⟩; exact ⟨z1, by omega⟩
      · rintro ⟨z1, z2⟩
        by_cases e : s = S
        · subst e; exact absurd z1.2.2.1 q
        · exact ⟨z1, by omega⟩
theorem pkT (hf : f9 a ∧ f9 b ∧ f9 c) (hC : CacheI A cnt) (hB : ∀ n, n < cnt → CB (cC A n)) : PkI A a b c cnt (Cel A dm ncl) (pkw A a b c dm ncl cnt 32) := (pkw_I hf hC hB 32 (Nat.le_refl _)).K fun _ _ => ⟨fun z => z.1, fun z => ⟨z, z.1⟩⟩
theorem abs64 {X : Int} (h : X.natAbs ≤ 2361960) : (if 0 < Int64.ofInt X then Int64.ofInt X else -Int64.ofInt X) = lN X.natAbs ∧ (if Int64.ofInt X < 0 then -Int64.ofInt X else Int64.ofInt X) = lN X.natAbs := by
  have e1 : (Int64.ofInt X).toInt = X := s64 h (by decide)
  have e2 : -Int64.ofInt X = Int64.ofInt (-X) := (Int64.ofInt_neg X).symm
  have e0 : (0 : Int64).toInt = 0 := by decide
  have hl : lN X.natAbs = Int64.ofInt (X.natAbs : Int) := by
    unfold lN
    rw [Int64.ofInt_eq_ofNat]
  rw [hl, e2]
  constructor
  · by_cases q : 0 < Int64.ofInt X
    · have := Int64.lt_iff_toInt_lt.mp q
      rw [e1, e0] at this
      rw [if_pos q, show (X.natAbs : Int) = X by omega]
    · have : ¬ (0 : Int64).toInt < (Int64.ofInt X).toInt := fun z => q (Int64.lt_iff_toInt_lt.mpr z)
      rw [e1, e0] at this
      rw [if_neg q, show (X.natAbs : Int) = -X by omega]
  · by_cases q : Int64.ofInt X < 0
    · have := Int64.lt_iff_toInt_lt.mp q
      rw [e1, e0] at this
      rw [if_pos q, show (X.natAbs : Int) = -X by omega]
    · have : ¬ (Int64.ofInt X).toInt < (0 : Int64).toInt := fun z => q (Int64.lt_iff_toInt_lt.mpr z)
      rw [e1, e0] at this
      rw [if_neg q, show (X.natAbs : Int) = X by omega]
theorem W6_lN {q : Crn} (h : CB q) : W6 q = lN (dn q).toNat := by
  unfold W6 lN
  have := h.1
  rw [← Int64.ofInt_eq_ofNat, show ((dn q).toNat : Int) = dn q by omega]
theorem numOk (hf : f9 a ∧ f9 b ∧ f9 c) (hC : CacheI A cnt) (hB : ∀ n, n < cnt → CB (cC A n)) : ∃ h0 w0, NumOk (pkw A a b c dm ncl cnt 32) h0 w0 := by
  rcases pkT (dm := dm) (ncl := ncl) hf hC hB with ⟨_, e⟩ | ⟨m, g1, g2, g3, g4, g5, g6, g7⟩
  · rw [e]
    exact ⟨0, 0, by decide, by decide, by decide, by decide, Or.inl rfl⟩
  · have bm := hB m g1
    have hb := nm_b hf bm
    refine ⟨(nm a b c (cC A m)).natAbs, (dn (cC A m)).toNat, ?_, by omega, by have := bm.2.1; omega, by rw [g4, W6_lN bm], g6⟩
    rw [g3]
    exact (abs64 hb).1
/-- the model's climb: the first largest of what it has looked at -/
def MI2 (A : Nat → Nat → Int32) (a b c : Int32) (cnt2 : Nat) (Q : Nat → Prop) (t : Tr) : Prop := ((∀ n, n < cnt2 → ¬ Q n) ∧ t.2.2 = 0) ∨ ∃ m, m < cnt2 ∧ Q m ∧ t = (N6 a b c (cQ A m), W6 (cQ A m), 1) ∧ ∀ n, n < cnt2 → Q n → lq a b c (cQ A n) (cQ A m)
theorem MI2.Q {Q Q2 : Nat → Prop} {t : Tr} (h : MI2 A a b c cnt2 Q t) (e : ∀ n, n < cnt2 → (Q n ↔ Q2 n)) : MI2 A a b c cnt2 Q2 t := by
  rcases h with ⟨h1, h2⟩ | ⟨m, h1, h2, h3, h4⟩
  · exact Or.inl ⟨fun n hn z => h1 n hn ((e n hn).mpr z), h2⟩
  · exact Or.inr ⟨m, h1, (e m h1).mp h2, h3, fun n hn z => h4 n hn ((e n hn).mpr z)⟩
def FtQ (A : Nat → Nat → Int32) (s p n : Nat) : Prop := FitS A s p (vQ A n)
end MOST

/-! ===== what holds of the two between operations ===== -/
def Keep (A B : Nat → Nat → Int32) : Prop := (∀ o, 1 ≤ o → o ≤ 11 → B o = A o) ∧ (∀ p, 5 ≤ p → p < 14 → RC B p = RC A p) ∧ (∀ o, 28 ≤ o → o ≤ 31 → B o = A o) ∧ B 37 = A 37 ∧ B 27 4 = A 27 4 ∧ B 27 5 = A 27 5
theorem Keep.tr {A B C : Nat → Nat → Int32} (h : Keep A B) (h2 : Keep B C) : Keep A C :=
  ⟨fun o q1 q2 => (h2.1 o q1 q2).trans (h.1 o q1 q2), fun p q1 q2 => (h2.2.1 p q1 q2).trans (h.2.1 p q1 q2), fun o q1 q2 => (h2.2.2.1 o q1 q2).trans (h.2.2.1 o q1 q2), h2.2.2.2.1.trans h.2.2.2.1, h2.2.2.2.2.1.trans h.2.2.2.2.1, h2.2.2.2.2.2.trans h.2.2.2.2.2⟩
theorem Keep.rf {A B : Nat → Nat → Int32} (h : RfF A B) : Keep A B := by
  refine ⟨fun o q1 q2 => h.1 o (by omega) (by omega), fun p q1 q2 => ?_, fun o q1 q2 => h.1 o (by omega) (by omega), h.1 37 (by omega) (by omega), by rw [h.1 27 (by omega) (by omega)], by rw [h.1 27 (by omega) (by omega)]⟩
  obtain ⟨a1, a2, a3, a4⟩ := h.2.2.2 p q1
  unfold RC
  rw [a1, a2, a3, a4]
theorem Keep.k26 {A B : Nat → Nat → Int32} (h : ∀ o k, o ≠ 26 → B o k = A o k) : Keep A B := by
  have e : ∀ o, o ≠ 26 → B o = A o := fun o q => funext fun k => h o k q
  refine ⟨fun o q1 q2 => e o (by omega), fun p q1 q2 => ?_, fun o q1 q2 => e o (by omega), e 37 (by omega), by rw [e 27 (by omega)], by rw [e 27 (by omega)]⟩
  unfold RC
  rw [e 13 (by omega), e 14 (by omega), e 15 (by omega), e 16 (by omega)]
theorem CacheI_c {A B : Nat → Nat → Int32} {cnt : Nat} (h1 : ∀ o, 2 ≤ o → o ≤ 8 → B o = A o) (h2 : B 12 9 = A 12 9) (h3 : ∀ o, 13 ≤ o → o ≤ 25 → B o = A o) (h : CacheI A cnt) : CacheI B cnt := by
  have c2 := h1 2 (by omega) (by omega)
  have c3 := h1 3 (by omega) (by omega)
  have c4 := h1 4 (by omega) (by omega)
  have c5 := h1 5 (by omega) (by omega)
  have c6 := h1 6 (by omega) (by omega)
  have c7 := h1 7 (by omega) (by omega)
  have c8 := h1 8 (by omega) (by omega)
  have d := h3
  have g13 := h3 13 (by omega) (by omega)
  have g14 := h3 14 (by omega) (by omega)
  have g15 := h3 15 (by omega) (by omega)
  have g16 := h3 16 (by omega) (by omega)
  have y1 : ∀ p q r, cx B p q r = cx A p q r := fun p q r => by unfold cx D0; rw [g13, g14, g15, g16]
  have y2 : ∀ p q r, cy B p q r = cy A p q r := fun p q r => by unfold cy D0; rw [g13, g14, g15, g16]
  have y3 : ∀ p q r, cz B p q r = cz A p q r := fun p q r => by unfold cz D0; rw [g13, g14, g15, g16]
  have y4 : ∀ p q r, cw B p q r = cw A p q r := fun p q r => by unfold cw D0; rw [g13, g14, g15]
  have y5 : ∀ p q r, InB B p q r ↔ InB A p q r := fun p q r => by unfold InB; rw [y1, y2, y3, y4]; unfold D0; rw [g13, g14, g15]
  have y6 : ∀ n p q r, AtC B B n p q r ↔ AtC A A n p q r := fun n p q r => by
    unfold AtC
    rw [y1, y2, y3, y4, fsd_c g13 g14 g15 g16, h3 17 (by omega) (by omega), h3 18 (by omega) (by omega), h3 19 (by omega) (by omega), h3 20 (by omega) (by omega), h3 21 (by omega) (by omega)]
  obtain ⟨e1, e2, e3, e4, e5⟩ := h
  refine ⟨e1, h2.trans e2, by rw [g13, g14, g15, g16, c3, c4, c5, c6]; exact e3, ⟨fun p q r q1 q2 q3 q4 => ?_, fun n hn => ?_⟩, fun s p hs hp => ?_⟩
  · obtain ⟨n, z1, z2⟩ := e4.1 p q r q1 q2 q3 ((y5 p q r).mp q4)
    exact ⟨n, z1, (y6 n p q r).mpr z2⟩
  · obtain ⟨p, q, r, z1, z2, z3, z4, z5⟩ := e4.2 n hn
    exact ⟨p, q, r, z1, z2, z3, (y5 p q r).mpr z4, (y6 n p q r).mpr z5⟩
  · have n1 : ndc B s p = ndc A s p := by unfold ndc; rw [snd_c c2]
    have n2 : sgc B s p = sgc A s p := by unfold sgc; rw [ssg_c c2]
    have n3 : Opn B s p cnt = Opn A s p cnt := by
      unfold Opn
      rw [n1, n2, HasF_c c2 c7 c8, HavP_c (h3 21 (by omega) (by omega))]
    rw [n1, n2, n3, h3 23 (by omega) (by omega), h3 24 (by omega) (by omega), h3 25 (by omega) (by omega)]
    exact e5 s p hs hp
def GIv (G : Nat → Nat → Int64) : Prop := (G 27 22 = 0 ∧ G 0 6 = 0 ∧ G 0 7 = 0) ∨ ∃ (x : Int) (w : Nat), (0 < w ∧ w ≤ 4374 ∧ x.natAbs ≤ 2361960) ∧ G 27 21 = Int64.ofInt x ∧ G 27 22 = lN w ∧ G 0 6 = Int64.ofInt x / lN (x.natAbs.gcd w) ∧ G 0 7 = lN w / lN (x.natAbs.gcd w)
def Hst (A : Nat → Nat → Int32) : Prop := A 0 5 = 0 → ∃ cnt, CacheI A cnt
theorem Hst.c {A B : Nat → Nat → Int32} (h : Hst A) (h1 : ∀ o, o ≤ 8 → B o = A o) (h2 : B 12 9 = A 12 9) (h3 : ∀ o, 13 ≤ o → o ≤ 25 → B o = A o) : Hst B := by
  intro q
  rw [h1 0 (by omega)] at q
  obtain ⟨cnt, hc⟩ := h q
  exact ⟨cnt, CacheI_c (fun o _ q2 => h1 o q2) h2 h3 hc⟩
/-! ===== a question to both keeps what holds, and is answered alike ===== -/
section ASKS
variable {A A2 A3 : Nat → Nat → Int32} {G : Nat → Nat → Int64} {dm ncl lv cnt cnt2 : Nat}
theorem Wd_r {B : Nat → Nat → Int32} (h23 : B 23 = A 23) (h10 : B 10 = A 10) (s : Nat) : Wd B dm ncl s = Wd A dm ncl s := by
  unfold Wd SatC ClS LitH lit
  rw [h23, h10]
theorem cntw_r {B : Nat → Nat → Int32} (h23 : B 23 = A 23) (h10 : B 10 = A 10) (k : Nat) : cntw B dm ncl k = cntw A dm ncl k := by
  induction k with
  | zero => rfl
  | succ k ih =>
    have e := Wd_r (dm := dm) (ncl := ncl) h23 h10 k
    rcases Classical.em (Wd A dm ncl k) with q | q
    · rw [cntw_t q, cntw_t (by rw [e]; exact q), ih]
    · rw [cntw_f q, cntw_f (by rw [e]; exact q), ih]
theorem hv_r {B : Nat → Nat → Int32} (h23 : B 23 = A 23) (h10 : B 10 = A 10) (m : Nat) : hv B dm ncl m = hv A dm ncl m := by
  have e : Wd B dm ncl = Wd A dm ncl := funext fun s => Wd_r h23 h10 s
  unfold hv SW EW
  rw [e]
theorem pks_r {B : Nat → Nat → Int32} (h : ∀ o, 13 ≤ o → o ≤ 25 → B o = A o) (a b c : Int32) (cnt : Nat) (t : Tr) (s p : Nat) : pks B a b c cnt t s p = pks A a b c cnt t s p := by
  induction p with
  | zero => rfl
  | succ p ih =>
    have e : ∀ nd, ccf B a b c nd cnt = ccf A a b c nd cnt := fun nd => ccf_c (h 17 (by omega) (by omega)) (h 18 (by omega) (by omega)) (h 19 (by omega) (by omega)) (h 20 (by omega) (by omega)) (h 21 (by omega) (by omega)) a b c nd cnt
    rcases Classical.em (¬ A 23 (s * 5 + p) = 0) with q | q
    · rw [pks_t q, pks_t (by rw [h 23 (by omega) (by omega)]; exact q), ih, e, h 24 (by omega) (by omega), h 25 (by omega) (by omega)]
    · rw [pks_f q, pks_f (by rw [h 23 (by omega) (by omega)]; exact q), ih]
theorem pkw_r {B : Nat → Nat → Int32} (h : ∀ o, 13 ≤ o → o ≤ 25 → B o = A o) (h10 : B 10 = A 10) (a b c : Int32) (cnt k : Nat) : pkw B a b c dm ncl cnt k = pkw A a b c dm ncl cnt k := by
  induction k with
  | zero => rfl
  | succ k ih =>
    have e := Wd_r (dm := dm) (ncl := ncl) (h 23 (by omega) (by omega)) h10 k
    rcases Classical.em (Wd A dm ncl k) with q | q
    · rw [pkw_t q, pkw_t (by rw [e]; exact q), ih, pks_r h]
    · rw [pkw_f q, pkw_f (by rw [e]; exact q), ih]
theorem div64 {X k : Int} {g : Nat} (hg : 0 < g) (hX : X = k * g) (hb : X.natAbs ≤ 2361960) (hg2 : g ≤ 4374) : Int64.ofInt X / lN g = Int64.ofInt k := by
  have e1 : (Int64.ofInt X).toInt = X := s64 hb (by decide)
  have e2 : (lN g).toInt = g := by
    unfold lN
    rw [← Int64.ofInt_eq_ofNat]
    exact s64 (m := 4374) (by omega) (by decide)
  apply Int64.toInt_inj.mp
  have e3 : X.tdiv (g : Int) = k := by rw [hX]; exact Int.mul_tdiv_cancel _ (by omega)
  rw [Int64.toInt_div, e1, e2, e3, Int64.toInt_ofInt]
  try rfl
theorem red64 {a b c : Int32} (hf : f9 a ∧ f9 b ∧ f9 c) {q r : Crn} (hq : CB q) (hr : CB r) (h1 : lq a b c q r) (h2 : lq a b c r q) : N6 a b c q / lN ((nm a b c q).natAbs.gcd (dn q).toNat) = N6 a b c r / lN ((nm a b c r).natAbs.gcd (dn r).toNat) ∧ W6 q / lN ((nm a b c q).natAbs.gcd (dn q).toNat) = W6 r / lN ((nm a b c r).natAbs.gcd (dn r).toNat) := by
  have bq := nm_b hf hq
  have br := nm_b hf hr
  have q1 := hq.1
  have q2 := hq.2.1
  have r1 := hr.1
  have r2 := hr.2.1
  have e : nm a b c q * ((dn r).toNat : Int) = nm a b c r * ((dn q).toNat : Int) := by
    rw [show ((dn r).toNat : Int) = dn r by omega, show ((dn q).toNat : Int) = dn q by omega]
    exact Int.le_antisymm h1 h2
  obtain ⟨z1, z2⟩ := red_eq (u := (dn q).toNat) (v := (dn r).toNat) (by omega) (by omega) e
  have gq : 0 < (nm a b c q).natAbs.gcd (dn q).toNat := Nat.gcd_pos_of_pos_right _ (by omega)
  have gr : 0 < (nm a b c r).natAbs.gcd (dn r).toNat := Nat.gcd_pos_of_pos_right _ (by omega)
  have gq2 : (nm a b c q).natAbs.gcd (dn q).toNat ≤ (dn q).toNat := Nat.gcd_le_right _ (by omega)
  have gr2 : (nm a b c r).natAbs.gcd (dn r).toNat ≤ (dn r).toNat := Nat.gcd_le_right _ (by omega)
  have dq : (((nm a b c q).natAbs.gcd (dn q).toNat : Nat) : Int) ∣ nm a b c q := Int.ofNat_dvd_left.mpr (Nat.gcd_dvd_left _ _)
  have dr : (((nm a b c r).natAbs.gcd (dn r).toNat : Nat) : Int) ∣ nm a b c r := Int.ofNat_dvd_left.mpr (Nat.gcd_dvd_left _ _)
  constructor
  · unfold N6
    rw [div64 gq (Int.ediv_mul_cancel dq).symm bq (by omega), div64 gr (Int.ediv_mul_cancel dr).symm br (by omega), z1]
  · rw [W6_lN hq, W6_lN hr, pk_lDiv (by omega) gq (by omega), pk_lDiv (by omega) gr (by omega), z2]
theorem lN_inj {a b : Nat} (ha : a < 2 ^ 63) (hb : b < 2 ^ 63) (h : lN a = lN b) : a = b := (pk_lEQ ha hb).mp h
/-- what the class keeps of the largest value is the reduced fraction -/
theorem rd_of {a b c : Int32} (hf : f9 a ∧ f9 b ∧ f9 c) {q : Crn} (hq : CB q) {t : Tr} {h0 w0 : Nat} (hN : NumOk t h0 w0) (h1 : t.1 = N6 a b c q) (h2 : t.2.1 = W6 q) : rdo t h0 w0 = N6 a b c q / lN ((nm a b c q).natAbs.gcd (dn q).toNat) ∧ rdu t h0 w0 = W6 q / lN ((nm a b c q).natAbs.gcd (dn q).toNat) := by
  have bq := nm_b hf hq
  have q1 := hq.1
  have q2 := hq.2.1
  obtain ⟨n1, n2, n3, n4, n5⟩ := hN
  have e1 : h0 = (nm a b c q).natAbs := by
    rw [h1] at n1
    exact lN_inj (by omega) (by omega) (n1.symm.trans (abs64 bq).1)
  have e2 : w0 = (dn q).toNat := by
    rw [h2, W6_lN hq] at n4
    exact lN_inj (by omega) (by omega) n4.symm
  have gq : 0 < (nm a b c q).natAbs.gcd (dn q).toNat := Nat.gcd_pos_of_pos_right _ (by omega)
  have gq2 : (nm a b c q).natAbs.gcd (dn q).toNat ≤ (dn q).toNat := Nat.gcd_le_right _ (by omega)
  have hp := (lN_pos (w := (nm a b c q).natAbs.gcd (dn q).toNat) (by omega)).mpr gq
  unfold rdo rdu
  rw [e1, e2, if_pos hp, if_pos hp, h1, h2]
  exact ⟨rfl, rfl⟩
theorem rd_0 {h0 w0 : Nat} (hN : NumOk (0, 0, 0) h0 w0) : rdo (0, 0, 0) h0 w0 = 0 ∧ rdu (0, 0, 0) h0 w0 = 0 := by
  obtain ⟨n1, n2, n3, n4, n5⟩ := hN
  have e1 : h0 = 0 := lN_inj (by omega) (by decide) (n1.symm.trans (by decide))
  have e2 : w0 = 0 := lN_inj (by omega) (by decide) (n4.symm.trans (by decide))
  subst e1 e2
  decide
end ASKS
end
section
/-! ===== sets of worlds as words of bits ===== -/
noncomputable def wI (W : Nat → Prop) : Nat → Int32
  | 0 => 0
  | k + 1 => @ite Int32 (W k) (Classical.propDecidable _) (wI W k ||| (1 <<< (nI k &&& 31))) (wI W k)
theorem wI_t {W : Nat → Prop} {k : Nat} (h : W k) : wI W (k + 1) = wI W k ||| (1 <<< (nI k &&& 31)) := if_pos h
theorem wI_f {W : Nat → Prop} {k : Nat} (h : ¬ W k) : wI W (k + 1) = wI W k := if_neg h
theorem tb_wI (W : Nat → Prop) : ∀ k, k ≤ 32 → ∀ i, i < 32 → (tb (wI W k) i = true ↔ (i < k ∧ W i)) := by
  intro k
  induction k with
  | zero =>
    intro _ i _
    show tb 0 i = true ↔ _
    rw [tb_0]
    constructor
    · intro h; cases h
    · intro h; omega
  | succ k ih =>
    intro hk i hi
    rcases Classical.em (W k) with q | q
    · rw [wI_t q, tb_or, tb_pow k (by omega) i hi, Bool.or_eq_true, ih (by omega) i hi, decide_eq_true_eq]
      constructor
      · rintro (⟨h1, h2⟩ | rfl)
        · exact ⟨by omega, h2⟩
        · exact ⟨by omega, q⟩
      · rintro ⟨h1, h2⟩
        by_cases e : i = k
        · exact Or.inr e
        · exact Or.inl ⟨by omega, h2⟩
    · rw [wI_f q, ih (by omega) i hi]
      constructor
      · rintro ⟨h1, h2⟩; exact ⟨by omega, h2⟩
      · rintro ⟨h1, h2⟩
        refine ⟨?_, h2⟩
        by_cases e : i = k
        · subst e; exact absurd h2 q
        · omega
theorem tb_w (W : Nat → Prop) {i : Nat} (hi : i < 32) : tb (wI W 32) i = true ↔ W i := by
  rw [tb_wI W 32 (Nat.le_refl _) i hi]
  exact ⟨fun h => h.2, fun h => ⟨hi, h⟩⟩
theorem tb_ext2 {x y : Int32} (h : ∀ i, i < 32 → (tb x i = true ↔ tb y i = true)) : x = y := tb_ext fun i hi => Bool.eq_iff_iff.mpr (h i hi)
theorem wI_32 {W : Nat → Prop} {K : Nat} (hK : K ≤ 32) (h : ∀ s, s < 32 → W s → s < K) : wI W K = wI W 32 := tb_ext2 fun i hi => by
  rw [tb_wI W K hK i hi, tb_w W hi]
  exact ⟨fun z => z.2, fun z => ⟨h i hi z, z⟩⟩
theorem wI_c {V W : Nat → Prop} (h : ∀ s, s < 32 → (V s ↔ W s)) : wI V 32 = wI W 32 := tb_ext2 fun i hi => by
  rw [tb_w V hi, tb_w W hi]
  exact h i hi
theorem wI_eq {V W : Nat → Prop} (h : wI V 32 = wI W 32) {s : Nat} (hs : s < 32) : V s ↔ W s := by
  rw [← tb_w V hs, ← tb_w W hs, h]
theorem wI_z {W : Nat → Prop} : wI W 32 = 0 ↔ ∀ s, s < 32 → ¬ W s := by
  rw [z_iff]
  constructor
  · intro h s hs hw
    have := h s hs
    rw [(tb_w W hs).mpr hw] at this
    cases this
  · intro h s hs
    cases e : tb (wI W 32) s with
    | false => rfl
    | true => exact absurd ((tb_w W hs).mp e) (h s hs)
theorem wI_and (V W : Nat → Prop) : wI V 32 &&& wI W 32 = wI (fun s => V s ∧ W s) 32 := tb_ext2 fun i hi => by
  rw [tb_and, Bool.and_eq_true, tb_w V hi, tb_w W hi, tb_w _ hi]
theorem wI_or (V W : Nat → Prop) : wI V 32 ||| wI W 32 = wI (fun s => V s ∨ W s) 32 := tb_ext2 fun i hi => by
  rw [tb_or, Bool.or_eq_true, tb_w V hi, tb_w W hi, tb_w _ hi]
theorem wI_sub {V W : Nat → Prop} (h : ∀ s, s < 32 → V s → W s) : wI V 32 &&& (wI W 32 ^^^ (-1)) = 0 := by
  rw [z_iff]
  intro i hi
  rw [tb_and, tb_not _ hi]
  cases e : tb (wI V 32) i with
  | false => rfl
  | true =>
    rw [(tb_w W hi).mpr (h i hi ((tb_w V hi).mp e))]
    rfl
theorem ushr_k : ∀ k, k < 32 → ((nI k).toUInt32 &&& Int32.toUInt32 31) = UInt32.ofNat k := by decide +kernel
theorem tb_1 : ∀ i, i < 32 → tb 1 i = decide (i = 0) := by decide +kernel
theorem ushr_tb (x : Int32) {k : Nat} (hk : k < 32) : ((x.toUInt32 >>> ((nI k).toUInt32 &&& Int32.toUInt32 31)).toInt32 &&& 1) = if tb x k = true then 1 else 0 := by
  have h0 : tb ((x.toUInt32 >>> UInt32.ofNat k).toInt32) 0 = tb x k := by
    have e : (x.toUInt32 >>> UInt32.ofNat k).toInt32.toBitVec = x.toBitVec >>> k := by
      show (x.toUInt32 >>> UInt32.ofNat k).toBitVec = _
      rw [UInt32.toBitVec_shiftRight]
      apply BitVec.eq_of_toNat_eq
      simp only [BitVec.ushiftRight_eq', BitVec.toNat_ushiftRight]
      have : ((UInt32.ofNat k).toBitVec % 32).toNat = k := by
        simp
        omega
      rw [this]
      rfl
    unfold tb
    rw [e, BitVec.getLsbD_ushiftRight, Nat.add_zero]
  rw [ushr_k k hk]
  apply tb_ext
  intro i hi
  rw [tb_and, tb_1 i hi]
  by_cases e : i = 0
  · subst e
    rw [h0]
    cases h : tb x k with
    | true => rw [if_pos rfl]; decide
    | false => rw [if_neg (by decide)]; decide
  · have e2 : ∀ i, i < 32 → i ≠ 0 → tb 1 i = false ∧ tb 0 i = false := by decide +kernel
    obtain ⟨g1, g2⟩ := e2 i hi e
    rw [show decide (i = 0) = false from decide_eq_false e, Bool.and_false]
    split
    · exact g1.symm
    · exact g2.symm
/-- how many bits there are below k -/
def pcn (x : Int32) : Nat → Nat
  | 0 => 0
  | k + 1 => if tb x k = true then pcn x k + 1 else pcn x k
theorem pcn_w (W : Nat → Prop) (f : Nat → Nat) (h0 : f 0 = 0) (ht : ∀ k, W k → f (k + 1) = f k + 1) (hf : ∀ k, ¬ W k → f (k + 1) = f k) : ∀ k, k ≤ 32 → pcn (wI W 32) k = f k := by
  intro k
  induction k with
  | zero => exact fun _ => h0.symm
  | succ k ih =>
    intro hk
    have ih := ih (by omega)
    rcases Classical.em (W k) with q | q
    · rw [ht k q, ← ih]
      exact if_pos ((tb_w W (by omega)).mpr q)
    · rw [hf k q, ← ih]
      exact if_neg fun z => q ((tb_w W (by omega)).mp z)
theorem pcn_cnt (A : Nat → Nat → Int32) (dm ncl : Nat) : pcn (wI (Wd A dm ncl) 32) 32 = cntw A dm ncl 32 :=
  pcn_w _ _ rfl (fun _ h => cntw_t h) (fun _ h => cntw_f h) 32 (Nat.le_refl _)
theorem nI_if (n : Nat) (p : Prop) [Decidable p] : nI n + (if p then 1 else 0) = nI (if p then n + 1 else n) := by
  split
  · exact nI_1 n
  · exact Int32.add_zero _
/-- the condition of 'with' -/
theorem HL_with : ∀ m, m < 10 → ∀ s, s < 32 → (((nI s >>> ((nI m / 2) &&& 31)) &&& 1) = 1 - (nI m - nI m / 2 * 2) ↔ HL s m) := by
  have h : ∀ m, m < 10 → ∀ s, s < 32 → (((nI s >>> ((nI m / 2) &&& 31)) &&& 1) = 1 - (nI m - nI m / 2 * 2) ↔ (s.testBit (m / 2) = true ↔ m % 2 = 0)) := by decide +kernel
  exact h
end
section
/-! ===== the desk between the law's calls ===== -/
/-- how many atoms, how many sets of them, which are defined -/
def Mm (mm P dm : Nat) : Prop := (mm = 2 ∧ P = 4 ∧ dm = 3) ∨ (mm = 3 ∧ P = 8 ∧ dm = 7) ∨ (mm = 4 ∧ P = 16 ∧ dm = 15) ∨ (mm = 5 ∧ P = 32 ∧ dm = 31)
theorem Mm.pw {mm P dm : Nat} (h : Mm mm P dm) : (1 : Int32) <<< (nI mm &&& 31) = nI P := by
  rcases h with ⟨rfl, rfl, rfl⟩ | ⟨rfl, rfl, rfl⟩ | ⟨rfl, rfl, rfl⟩ | ⟨rfl, rfl, rfl⟩ <;> decide
theorem Mm.le {mm P dm : Nat} (h : Mm mm P dm) : P ≤ 32 ∧ 4 ≤ P ∧ dm < 32 ∧ mm ≤ 5 ∧ 2 ≤ mm ∧ P = dm + 1 := by
  rcases h with ⟨rfl, rfl, rfl⟩ | ⟨rfl, rfl, rfl⟩ | ⟨rfl, rfl, rfl⟩ | ⟨rfl, rfl, rfl⟩ <;> decide
theorem Mm.and {mm P dm : Nat} (h : Mm mm P dm) : ∀ s, s < 32 → (s &&& dm = s ↔ s < P) := by
  rcases h with ⟨rfl, rfl, rfl⟩ | ⟨rfl, rfl, rfl⟩ | ⟨rfl, rfl, rfl⟩ | ⟨rfl, rfl, rfl⟩ <;> decide
theorem Mm.tb {mm P dm : Nat} (h : Mm mm P dm) : ∀ j, j < 10 → j < 2 * mm → dm.testBit (j / 2) = true := by
  rcases h with ⟨rfl, rfl, rfl⟩ | ⟨rfl, rfl, rfl⟩ | ⟨rfl, rfl, rfl⟩ | ⟨rfl, rfl, rfl⟩ <;> decide
theorem nI_and : ∀ s, s < 32 → ∀ d, d < 32 → nI s &&& nI d = nI (s &&& d) := by decide +kernel
theorem Mm.nand {mm P dm : Nat} (h : Mm mm P dm) {s : Nat} (hs : s < P) : nI s &&& nI dm = nI s := by
  have := h.le
  rw [nI_and s (by omega) dm (by omega), (h.and s (by omega)).mpr hs]
theorem Mm.wd {mm P dm : Nat} (h : Mm mm P dm) {A : Nat → Nat → Int32} {ncl : Nat} : ∀ s, s < 32 → Wd A dm ncl s → s < P := fun s hs hw => (h.and s hs).mp hw.1
theorem Mm.wI {mm P dm : Nat} (h : Mm mm P dm) (A : Nat → Nat → Int32) (ncl : Nat) : wI (Wd A dm ncl) P = wI (Wd A dm ncl) 32 := wI_32 h.le.1 h.wd
/-- the caches stand -/
def Std (A : Nat → Nat → Int32) (dm ncl cnt : Nat) : Prop := KI A dm ncl ∧ CacheI A cnt ∧ A 0 5 = 0
/-- j clauses of one literal each on top of B's ncl, behind a push (lv = 1) or without -/
def Ext (B A : Nat → Nat → Int32) (ncl : Nat) (lf : Nat → Nat) (j lv : Nat) : Prop :=
  (∀ o, o ≠ 9 → o ≠ 10 → o ≠ 11 → o ≠ 26 → A o = B o) ∧ (∀ i, i < 3 * ncl → A 10 i = B 10 i) ∧ (∀ i, i < j → A 10 ((ncl + i) * 3) = nI (lf i) ∧ A 10 ((ncl + i) * 3 + 1) = -1 ∧ A 10 ((ncl + i) * 3 + 2) = -1) ∧ A 9 2 = nI (ncl + j) ∧ A 9 3 = nI lv ∧ (lv = 1 → A 11 0 = nI ncl) ∧ LitOk A
theorem Ext.rf {B : Nat → Nat → Int32} {dm ncl : Nat} (h : KI B dm ncl) (h9 : B 9 3 = 0) (lf : Nat → Nat) : Ext B B ncl lf 0 0 :=
  ⟨fun _ _ _ _ _ => rfl, fun _ _ => rfl, fun i hi => by omega, h.2.2.2.2.1, h9, fun z => absurd z (by decide), h.2.1⟩
theorem Ext.lf {B A : Nat → Nat → Int32} {ncl lv : Nat} {lf : Nat → Nat} (h : Ext B A ncl lf 0 lv) (lf2 : Nat → Nat) : Ext B A ncl lf2 0 lv :=
  ⟨h.1, h.2.1, fun i hi => by omega, h.2.2.2⟩
theorem Ext.ki {B A : Nat → Nat → Int32} {dm ncl j lv : Nat} {lf : Nat → Nat} (hB : KI B dm ncl) (h : Ext B A ncl lf j lv) (h8 : ncl + j ≤ 8) : KI A dm (ncl + j) := by
  obtain ⟨h1, h2, h3, h4, h5, h6⟩ := hB
  obtain ⟨g1, g2, g3, g4, g5, g6, g7⟩ := h
  refine ⟨FOk_c (g1 2 (by decide) (by decide) (by decide) (by decide)) (g1 7 (by decide) (by decide) (by decide) (by decide)) (g1 8 (by decide) (by decide) (by decide) (by decide)) h1, g7, ?_, h4, g4, h8⟩
  rw [g1 1 (by decide) (by decide) (by decide) (by decide)]
  exact h3
theorem Ext.ci {B A : Nat → Nat → Int32} {ncl j lv cnt : Nat} {lf : Nat → Nat} (hB : CacheI B cnt) (h : Ext B A ncl lf j lv) : CacheI A cnt :=
  CacheI_c (fun o q1 q2 => h.1 o (by omega) (by omega) (by omega) (by omega)) (by rw [h.1 12 (by decide) (by decide) (by decide) (by decide)]) (fun o q1 q2 => h.1 o (by omega) (by omega) (by omega) (by omega)) hB
theorem Ext.std {B A : Nat → Nat → Int32} {dm ncl j lv cnt : Nat} {lf : Nat → Nat} (hB : Std B dm ncl cnt) (h : Ext B A ncl lf j lv) (h8 : ncl + j ≤ 8) : Std A dm (ncl + j) cnt :=
  ⟨h.ki hB.1 h8, h.ci hB.2.1, by rw [h.1 0 (by decide) (by decide) (by decide) (by decide)]; exact hB.2.2⟩
theorem lit_n : ∀ m, m < 10 → (nI m).toNatClampNeg = m ∧ ¬ nI m = -1 := by decide +kernel
theorem ClS_1 {A : Nat → Nat → Int32} {s st m : Nat} (hm : m < 10) (h0 : A 10 st = nI m) (h1 : A 10 (st + 1) = -1) (h2 : A 10 (st + 2) = -1) : ClS A s st ↔ HL s m := by
  obtain ⟨e1, e2⟩ := lit_n m hm
  constructor
  · rintro ⟨i, g1, g2, g3, g4⟩
    rcases (show i = st ∨ i = st + 1 ∨ i = st + 2 by omega) with rfl | rfl | rfl
    · unfold lit at g4
      rw [h0, e1] at g4
      exact g4
    · exact absurd h1 g3
    · exact absurd h2 g3
  · intro h
    refine ⟨st, Nat.le_refl _, by omega, by rw [h0]; exact e2, ?_⟩
    unfold lit
    rw [h0, e1]
    exact h
theorem ClS_e {A B : Nat → Nat → Int32} {s st : Nat} (h : ∀ i, st ≤ i → i < st + 3 → A 10 i = B 10 i) : ClS A s st ↔ ClS B s st := by
  unfold ClS LitH lit
  constructor
  · rintro ⟨i, g1, g2, g3⟩
    rw [h i g1 g2] at g3
    exact ⟨i, g1, g2, g3⟩
  · rintro ⟨i, g1, g2, g3⟩
    rw [← h i g1 g2] at g3
    exact ⟨i, g1, g2, g3⟩
theorem Ext.wd {B A : Nat → Nat → Int32} {dm ncl j lv : Nat} {lf : Nat → Nat} (h : Ext B A ncl lf j lv) (hl : ∀ i, i < j → lf i < 10) (s : Nat) : Wd A dm (ncl + j) s ↔ (Wd B dm ncl s ∧ ∀ i, i < j → HL s (lf i)) := by
  have e23 := h.1 23 (by decide) (by decide) (by decide) (by decide)
  have a1 : ∀ n, n < ncl → (ClS A s (n * 3) ↔ ClS B s (n * 3)) := fun n hn => ClS_e fun i q1 q2 => h.2.1 i (by omega)
  have a2 : ∀ i, i < j → (ClS A s ((ncl + i) * 3) ↔ HL s (lf i)) := fun i hi => by
    obtain ⟨z1, z2, z3⟩ := h.2.2.1 i hi
    exact ClS_1 (hl i hi) z1 z2 z3
  unfold Wd
  rw [e23]
  constructor
  · rintro ⟨h1, h2, h3⟩
    refine ⟨⟨h1, h2, fun n hn => (a1 n hn).mp (h3 n (by omega))⟩, fun i hi => (a2 i hi).mp (h3 (ncl + i) (by omega))⟩
  · rintro ⟨⟨h1, h2, h3⟩, h4⟩
    refine ⟨h1, h2, fun n hn => ?_⟩
    by_cases e : n < ncl
    · exact (a1 n e).mpr (h3 n e)
    · have := (a2 (n - ncl) (by omega)).mpr (h4 (n - ncl) (by omega))
      rw [show ncl + (n - ncl) = n by omega] at this
      exact this
theorem nI_s1 (k : Nat) : nI (k + 1) - 1 = nI k := by
  rw [← nI_1]
  grind
theorem Ext.push {B A : Nat → Nat → Int32} {ncl : Nat} {lf : Nat → Nat} (h : Ext B A ncl lf 0 0) : Ext B (u2 (u2 A 11 0 (A 9 2)) 9 3 (A 9 3 + 1)) ncl lf 0 1 := by
  obtain ⟨g1, g2, g3, g4, g5, g6, g7⟩ := h
  have e10 : (u2 (u2 A 11 0 (A 9 2)) 9 3 (A 9 3 + 1)) 10 = A 10 := by rw [u2_row (by decide), u2_row (by decide)]
  refine ⟨fun o q1 q2 q3 q4 => ?_, fun i hi => by rw [e10]; exact g2 i hi, fun i hi => by omega, ?_, ?_, fun _ => ?_, ?_⟩
  · rw [u2_row q1, u2_row q3]; exact g1 o q1 q2 q3 q4
  · rw [u2_k (by decide), u2_o (by decide)]; exact g4
  · rw [u2_s, g5]; exact nI_1 0
  · rw [u2_o (by decide), u2_s]; exact g4
  · simpa only [LitOk, lit, e10] using g7
theorem Ext.add {B A : Nat → Nat → Int32} {ncl j : Nat} {lf : Nat → Nat} (h : Ext B A ncl lf j 1) (h8 : ncl + j < 8) (hm : lf j < 10) : Ext B (u2 (u2 (u2 (u2 A 10 ((ncl + j) * 3) (nI (lf j))) 10 ((ncl + j) * 3 + 1) (-1)) 10 ((ncl + j) * 3 + 2) (-1)) 9 2 (A 9 2 + 1)) ncl lf (j + 1) 1 := by
  obtain ⟨g1, g2, g3, g4, g5, g6, g7⟩ := h
  have hr : ∀ o, o ≠ 9 → o ≠ 10 → (u2 (u2 (u2 (u2 A 10 ((ncl + j) * 3) (nI (lf j))) 10 ((ncl + j) * 3 + 1) (-1)) 10 ((ncl + j) * 3 + 2) (-1)) 9 2 (A 9 2 + 1)) o = A o := fun o q1 q2 => by
    rw [u2_row q1, u2_row q2, u2_row q2, u2_row q2]
  have ho : ∀ i, i < (ncl + j) * 3 ∨ (ncl + j) * 3 + 2 < i → (u2 (u2 (u2 (u2 A 10 ((ncl + j) * 3) (nI (lf j))) 10 ((ncl + j) * 3 + 1) (-1)) 10 ((ncl + j) * 3 + 2) (-1)) 9 2 (A 9 2 + 1)) 10 i = A 10 i := fun i hi => by
    rw [u2_o (by decide), u2_k (by omega), u2_k (by omega), u2_k (by omega)]
  have n0 : (u2 (u2 (u2 (u2 A 10 ((ncl + j) * 3) (nI (lf j))) 10 ((ncl + j) * 3 + 1) (-1)) 10 ((ncl + j) * 3 + 2) (-1)) 9 2 (A 9 2 + 1)) 10 ((ncl + j) * 3) = nI (lf j) := by
    rw [u2_o (by decide), u2_k (by omega), u2_k (by omega), u2_s]
  have n1 : (u2 (u2 (u2 (u2 A 10 ((ncl + j) * 3) (nI (lf j))) 10 ((ncl + j) * 3 + 1) (-1)) 10 ((ncl + j) * 3 + 2) (-1)) 9 2 (A 9 2 + 1)) 10 ((ncl + j) * 3 + 1) = -1 := by
    rw [u2_o (by decide), u2_k (by omega), u2_s]
  have n2 : (u2 (u2 (u2 (u2 A 10 ((ncl + j) * 3) (nI (lf j))) 10 ((ncl + j) * 3 + 1) (-1)) 10 ((ncl + j) * 3 + 2) (-1)) 9 2 (A 9 2 + 1)) 10 ((ncl + j) * 3 + 2) = -1 := by
    rw [u2_o (by decide), u2_s]
  refine ⟨fun o q1 q2 q3 q4 => by rw [hr o q1 q2]; exact g1 o q1 q2 q3 q4, fun i hi => by rw [ho i (by omega)]; exact g2 i hi, fun i hi => ?_, ?_, ?_, fun z => by rw [hr 11 (by decide) (by decide)]; exact g6 z, fun i hi => ?_⟩
  · by_cases e : i = j
    · subst e
      exact ⟨n0, n1, n2⟩
    · obtain ⟨z1, z2, z3⟩ := g3 i (by omega)
      rw [ho _ (by omega), ho _ (by omega), ho _ (by omega)]
      exact ⟨z1, z2, z3⟩
  · rw [u2_s, g4]; exact nI_1 (ncl + j)
  · rw [u2_k (by decide), u2_o (by decide), u2_o (by decide), u2_o (by decide)]; exact g5
  · unfold lit
    by_cases e0 : i = (ncl + j) * 3
    · subst e0
      rw [n0, (lit_n _ hm).1]
      exact Or.inr ⟨hm, rfl⟩
    · by_cases e1 : i = (ncl + j) * 3 + 1
      · subst e1
        exact Or.inl n1
      · by_cases e2 : i = (ncl + j) * 3 + 2
        · subst e2
          exact Or.inl n2
        · rw [ho i (by omega)]
          exact g7 i hi
theorem Ext.pop {B A : Nat → Nat → Int32} {ncl j : Nat} {lf : Nat → Nat} (h : Ext B A ncl lf j 1) (lf2 : Nat → Nat) : Ext B (u2 (u2 A 9 3 ((A 9 3) - 1)) 9 2 (A 11 (1 - 1))) ncl lf2 0 0 := by
  obtain ⟨g1, g2, g3, g4, g5, g6, g7⟩ := h
  have e10 : (u2 (u2 A 9 3 ((A 9 3) - 1)) 9 2 (A 11 (1 - 1))) 10 = A 10 := by rw [u2_row (by decide), u2_row (by decide)]
  refine ⟨fun o q1 q2 q3 q4 => ?_, fun i hi => by rw [e10]; exact g2 i hi, fun i hi => by omega, ?_, ?_, fun z => absurd z (by decide), ?_⟩
  · rw [u2_row q1, u2_row q1]; exact g1 o q1 q2 q3 q4
  · rw [u2_s]; exact g6 rfl
  · rw [u2_k (by decide), u2_s, g5]; exact nI_s1 0
  · simpa only [LitOk, lit, e10] using g7
theorem Ext.k26 {B A A3 : Nat → Nat → Int32} {ncl j lv : Nat} {lf : Nat → Nat} (h : Ext B A ncl lf j lv) (hk : ∀ o k, o ≠ 26 → A3 o k = A o k) : Ext B A3 ncl lf j lv := by
  have e : ∀ o, o ≠ 26 → A3 o = A o := fun o q => funext fun k => hk o k q
  obtain ⟨g1, g2, g3, g4, g5, g6, g7⟩ := h
  have e10 := e 10 (by decide)
  have e9 := e 9 (by decide)
  refine ⟨fun o q1 q2 q3 q4 => (e o q4).trans (g1 o q1 q2 q3 q4), by rw [e10]; exact g2, by rw [e10]; exact g3, by rw [e9]; exact g4, by rw [e9]; exact g5, by rw [e 11 (by decide)]; exact g6, ?_⟩
  simpa only [LitOk, lit, e10] using g7
end
section
/-! ===== the law's small methods; questions to a desk whose caches stand ===== -/
def ro1 (N : Nat) (xs : Nat → Int32) : RO := fun o => match o with
  | 103 => some (N, xs)
  | o => ro0 o
theorem ro1_ro0 (N : Nat) (xs : Nat → Int32) : ∀ o M f, ro0 o = some (M, f) → ro1 N xs o = some (M, f) := by
  intro o M f h
  by_cases e : o = 103
  · subst e
    cases h
  · unfold ro1
    split
    · exact absurd rfl e
    · exact h
def xc (N : Nat) (xs : Nat → Int32) (k : Nat) : Int32 := if k < N then xs k else 0
def smf (c : Int32) : Int32 := if c &&& 7 = 0 then -2 else if 4 ≤ c &&& 7 then (if 6 ≤ c &&& 7 then (if c &&& 7 = 6 then -1 else 3) else 1) else 0
theorem smf_f9 (c : Int32) : f9 (smf c) := by
  unfold smf f9
  split
  · decide
  · split
    · split
      · split <;> decide
      · decide
    · decide
theorem lg_ge2 {x y : Int64} : 0 ≤ lg_cmp x y ↔ ¬ x < y := (lg_cmp_ge x y).trans Int64.not_lt.symm
def cmpI (a b c d : Int64) : Int32 := if a * d < c * b then -1 else if c * b < a * d then 1 else 0
theorem q_world (l : Launch) {A : Nat → Nat → Int32} (G : Nat → Nat → Int64) {mm P dm ncl cnt : Nat} (hM : Mm mm P dm) (h : Std A dm ncl cnt) {s : Nat} (hs : s < P) : Sem l mX5_world [.ref 0, .int (nI s)] 27 (A, G, PF) 27 (pv (bi (Wd A dm ncl s)) (A, G, PF)) := by
  refine (s_X5_world l A G dm ncl h.1 (fun _ => ⟨cnt, h.2.1⟩) (nI s)).mono ?_
  rintro v M ⟨A2, cnt2, rfl, hC, hR, hz, rfl⟩
  have e := hz.2 h.2.2
  subst e
  have := hM.le
  refine ⟨?_, rfl⟩
  show some (Value.int (bi (∃ m, m < 32 ∧ nI s &&& nI dm = nI m ∧ Wd A2 dm ncl m))) = _
  rw [bi_c (show (∃ m, m < 32 ∧ nI s &&& nI dm = nI m ∧ Wd A2 dm ncl m) ↔ Wd A2 dm ncl s from ⟨fun ⟨m, h1, h2, h3⟩ => by rw [hM.nand hs] at h2; rw [nI_inj (by omega) (by omega) h2]; exact h3, fun z => ⟨s, by omega, hM.nand hs, z⟩⟩)]
theorem q_worlds (l : Launch) {A : Nat → Nat → Int32} (G : Nat → Nat → Int64) {dm ncl cnt : Nat} (h : Std A dm ncl cnt) : Sem l mX5_worlds [.ref 0] 27 (A, G, PF) 27 (pv (nI (cntw A dm ncl 32)) (A, G, PF)) := by
  refine (s_X5_worlds l A G dm ncl h.1 (fun _ => ⟨cnt, h.2.1⟩)).mono ?_
  rintro v M ⟨A2, cnt2, rfl, hC, hR, hz, rfl⟩
  have e := hz.2 h.2.2
  subst e
  exact ⟨rfl, rfl⟩
theorem q_holds (l : Launch) {A : Nat → Nat → Int32} (G : Nat → Nat → Int64) {dm ncl cnt m : Nat} (h : Std A dm ncl cnt) (hm : m < 10) (ht : dm.testBit (m / 2) = true) : Sem l mX5_holds [.ref 0, .int (nI m)] 27 (A, G, PF) 27 (pv (hv A dm ncl m) (A, G, PF)) := by
  refine (s_X5_holds l A G dm ncl h.1 (fun _ => ⟨cnt, h.2.1⟩) (nI m)).mono ?_
  rintro v M (⟨z, -⟩ | ⟨m2, h1, h2, h3, A2, cnt2, rfl, hC, hR, hz, rfl⟩)
  · exact absurd ((Dfd_nI hm).mpr ht) z
  · have e := hz.2 h.2.2
    subst e
    obtain rfl : m2 = m := nI_inj (by omega) (by omega) h2.symm
    exact ⟨rfl, rfl⟩
set_option maxRecDepth 100000 in
set_option maxHeartbeats 4000000 in
theorem s_X6_cell (l : Launch) (N : Nat) (hN : N < 2 ^ 31) (xs : Nat → Int32) (A : Nat → Nat → Int32) (G : Nat → Nat → Int64) (k : Nat) (hk : k < 2 ^ 31) (x : Int32) (hx : x = nI k) : SemR l (ro1 N xs) mX6_cell [.ref 103, .int x] 27 (A, G, PF) 27 (pv (xc N xs k) (A, G, PF)) := by
  refine sem_of_go (by decide) rfl (by decide) (by decide) rfl (Nat.le_of_ble_eq_true rfl) ?_
  show Go l (ro1 N xs) mX6_cell 27 (A, G, PF) 0 [.ref 103, .int x] [] 27 (pv (xc N xs k) (A, G, PF))
  refine go_blk (pc2 := 3) (L2 := [.ref 103, .int x]) (st2 := [.int (nI N), .int x]) (M2 := (A, G, PF)) (hs2 := []) (C := True) [(.iload_n 1, 0, 0), (.aload_n 0, 0, 0), (.arraylength, 0, 0)] [] (by decide +kernel) rfl trivial ?_
  refine go_cmp (cnd := .ge) (off := 9) 12 (by decide +kernel) (by decide) (fun (c1 : (nI N) ≤ x) => ?_) (fun (c1 : ¬ (nI N) ≤ x) => ?_)
  · skip
    replace c1 : N ≤ k := (nx_le (a := N) (b := k) rfl hx (by omega) (by omega)).mp c1
    refine go_blk (pc2 := 13) (L2 := [.ref 103, .int x]) (st2 := [.int 0]) (M2 := (A, G, PF)) (hs2 := []) (C := True) [(.iconst 0, 0, 0)] [] (by decide +kernel) rfl trivial ?_
    exact go_reti (by decide +kernel) rfl (pve (by unfold xc; first | exact (if_pos (by omega)).symm | exact (if_neg (by omega)).symm))
  · skip
    replace c1 : ¬ N ≤ k := fun zz => c1 ((nx_le (a := N) (b := k) rfl hx (by omega) (by omega)).mpr zz)
    refine go_blk (pc2 := 9) (L2 := [.ref 103, .int x]) (st2 := [.int (xs k)]) (M2 := (A, G, PF)) (hs2 := []) (C := (x = nI k ∧ k < N) ∧ True) [(.aload_n 0, 0, 0), (.iload_n 1, 0, 0), (.iaload, 0, 0)] [k] (by decide +kernel) rfl ⟨⟨hx, by omega⟩, trivial⟩ ?_
    refine go_goto (off := 4) 13 (by decide +kernel) (by decide) ?_
    exact go_reti (by decide +kernel) rfl (pve (by unfold xc; first | exact (if_pos (by omega)).symm | exact (if_neg (by omega)).symm))
set_option maxRecDepth 100000 in
set_option maxHeartbeats 4000000 in
theorem s_X6_small (l : Launch) (A : Nat → Nat → Int32) (G : Nat → Nat → Int64) (c : Int32) : Sem l mX6_small [.int c] 27 (A, G, PF) 27 (pv (smf c) (A, G, PF)) := by
  refine sem_of_go (by decide) rfl (by decide) (by decide) rfl (Nat.le_of_ble_eq_true rfl) ?_
  show Go l ro0 mX6_small 27 (A, G, PF) 0 [.int c] [] 27 (pv (smf c) (A, G, PF))
  refine go_blk (pc2 := 4) (L2 := [.int c]) (st2 := [.int (c &&& 7)]) (M2 := (A, G, PF)) (hs2 := []) (C := True) [(.iload_n 0, 0, 0), (.bipush 7, 0, 0), (.iand, 0, 0)] [] (by decide +kernel) rfl trivial ?_
  refine go_ifz (cnd := .ne) (off := 8) 12 (by decide +kernel) (by decide) (fun (c1 : ¬ (c &&& 7) = 0) => ?_) (fun (c1 : (c &&& 7) = 0) => ?_)
  · skip
    refine go_blk (pc2 := 17) (L2 := [.int c]) (st2 := [.int 4, .int (c &&& 7)]) (M2 := (A, G, PF)) (hs2 := []) (C := True) [(.iload_n 0, 0, 0), (.bipush 7, 0, 0), (.iand, 0, 0), (.iconst 4, 0, 0)] [] (by decide +kernel) rfl trivial ?_
    refine go_cmp (cnd := .ge) (off := 7) 24 (by decide +kernel) (by decide) (fun (c2 : 4 ≤ (c &&& 7)) => ?_) (fun (c2 : ¬ 4 ≤ (c &&& 7)) => ?_)
    · skip
      refine go_blk (pc2 := 30) (L2 := [.int c]) (st2 := [.int 6, .int (c &&& 7)]) (M2 := (A, G, PF)) (hs2 := []) (C := True) [(.iload_n 0, 0, 0), (.bipush 7, 0, 0), (.iand, 0, 0), (.bipush 6, 0, 0)] [] (by decide +kernel) rfl trivial ?_
      refine go_cmp (cnd := .ge) (off := 7) 37 (by decide +kernel) (by decide) (fun (c3 : 6 ≤ (c &&& 7)) => ?_) (fun (c3 : ¬ 6 ≤ (c &&& 7)) => ?_)
      · skip
        refine go_blk (pc2 := 43) (L2 := [.int c]) (st2 := [.int 6, .int (c &&& 7)]) (M2 := (A, G, PF)) (hs2 := []) (C := True) [(.iload_n 0, 0, 0), (.bipush 7, 0, 0), (.iand, 0, 0), (.bipush 6, 0, 0)] [] (by decide +kernel) rfl trivial ?_
        refine go_cmp (cnd := .ne) (off := 7) 50 (by decide +kernel) (by decide) (fun (c4 : ¬ (c &&& 7) = 6) => ?_) (fun (c4 : (c &&& 7) = 6) => ?_)
        · skip
          refine go_blk (pc2 := 51) (L2 := [.int c]) (st2 := [.int 3]) (M2 := (A, G, PF)) (hs2 := []) (C := True) [(.iconst 3, 0, 0)] [] (by decide +kernel) rfl trivial ?_
          exact go_reti (by decide +kernel) rfl (pve (by unfold smf; first | rw [if_pos (by assumption)] | rw [if_neg (by assumption), if_neg (by assumption)] | rw [if_neg (by assumption), if_pos (by assumption), if_neg (by assumption)] | rw [if_neg (by assumption), if_pos (by assumption), if_pos (by assumption), if_pos (by assumption)] | rw [if_neg (by assumption), if_pos (by assumption), if_pos (by assumption), if_neg (by assumption)]))
        · skip
          refine go_blk (pc2 := 47) (L2 := [.int c]) (st2 := [.int (-1)]) (M2 := (A, G, PF)) (hs2 := []) (C := True) [(.iconst (-1), 0, 0)] [] (by decide +kernel) rfl trivial ?_
          refine go_goto (off := 4) 51 (by decide +kernel) (by decide) ?_
          exact go_reti (by decide +kernel) rfl (pve (by unfold smf; first | rw [if_pos (by assumption)] | rw [if_neg (by assumption), if_neg (by assumption)] | rw [if_neg (by assumption), if_pos (by assumption), if_neg (by assumption)] | rw [if_neg (by assumption), if_pos (by assumption), if_pos (by assumption), if_pos (by assumption)] | rw [if_neg (by assumption), if_pos (by assumption), if_pos (by assumption), if_neg (by assumption)]))
      · skip
        refine go_blk (pc2 := 34) (L2 := [.int c]) (st2 := [.int 1]) (M2 := (A, G, PF)) (hs2 := []) (C := True) [(.iconst 1, 0, 0)] [] (by decide +kernel) rfl trivial ?_
        refine go_goto (off := 17) 51 (by decide +kernel) (by decide) ?_
        exact go_reti (by decide +kernel) rfl (pve (by unfold smf; first | rw [if_pos (by assumption)] | rw [if_neg (by assumption), if_neg (by assumption)] | rw [if_neg (by assumption), if_pos (by assumption), if_neg (by assumption)] | rw [if_neg (by assumption), if_pos (by assumption), if_pos (by assumption), if_pos (by assumption)] | rw [if_neg (by assumption), if_pos (by assumption), if_pos (by assumption), if_neg (by assumption)]))
    · skip
      refine go_blk (pc2 := 21) (L2 := [.int c]) (st2 := [.int 0]) (M2 := (A, G, PF)) (hs2 := []) (C := True) [(.iconst 0, 0, 0)] [] (by decide +kernel) rfl trivial ?_
      refine go_goto (off := 30) 51 (by decide +kernel) (by decide) ?_
      exact go_reti (by decide +kernel) rfl (pve (by unfold smf; first | rw [if_pos (by assumption)] | rw [if_neg (by assumption), if_neg (by assumption)] | rw [if_neg (by assumption), if_pos (by assumption), if_neg (by assumption)] | rw [if_neg (by assumption), if_pos (by assumption), if_pos (by assumption), if_pos (by assumption)] | rw [if_neg (by assumption), if_pos (by assumption), if_pos (by assumption), if_neg (by assumption)]))
  · skip
    refine go_blk (pc2 := 9) (L2 := [.int c]) (st2 := [.int (-2)]) (M2 := (A, G, PF)) (hs2 := []) (C := True) [(.bipush (-2), 0, 0)] [] (by decide +kernel) rfl trivial ?_
    refine go_goto (off := 42) 51 (by decide +kernel) (by decide) ?_
    exact go_reti (by decide +kernel) rfl (pve (by unfold smf; first | rw [if_pos (by assumption)] | rw [if_neg (by assumption), if_neg (by assumption)] | rw [if_neg (by assumption), if_pos (by assumption), if_neg (by assumption)] | rw [if_neg (by assumption), if_pos (by assumption), if_pos (by assumption), if_pos (by assumption)] | rw [if_neg (by assumption), if_pos (by assumption), if_pos (by assumption), if_neg (by assumption)]))
set_option maxRecDepth 100000 in
set_option maxHeartbeats 4000000 in
theorem lp_X6_with (l : Launch) (A : Nat → Nat → Int32) (G : Nat → Nat → Int64) (m : Nat) (hm : m < 10) : ∀ s, s ≤ 32 → Go l ro0 mX6_with 27 (A, G, PF) 4 [.int (nI m), .int (wI (fun i => HL i m) s), .int (nI s)] [] 27 (pv (wI (fun i => HL i m) 32) (A, G, PF)) := by
  refine down 32 (fun s hk ih  => ?_)
  refine go_blk (pc2 := 7) (L2 := [.int (nI m), .int (wI (fun i => HL i m) s), .int (nI s)]) (st2 := [.int 32, .int (nI s)]) (M2 := (A, G, PF)) (hs2 := []) (C := True) [(.iload_n 2, 0, 0), (.bipush 32, 0, 0)] [] (by decide +kernel) rfl trivial ?_
  refine go_cmp (cnd := .ge) (off := 30) 37 (by decide +kernel) (by decide) (fun (c1 : 32 ≤ (nI s)) => ?_) (fun (c1 : ¬ 32 ≤ (nI s)) => ?_)
  · skip
    replace c1 : 32 ≤ s := (nx_le (a := 32) (b := s) rfl rfl (by omega) (by omega)).mp c1
    refine go_blk (pc2 := 38) (L2 := [.int (nI m), .int (wI (fun i => HL i m) s), .int (nI s)]) (st2 := [.int (wI (fun i => HL i m) s)]) (M2 := (A, G, PF)) (hs2 := []) (C := True) [(.iload_n 1, 0, 0)] [] (by decide +kernel) rfl trivial ?_
    exact go_reti (by decide +kernel) rfl (pve (by rw [show s = 32 by omega]))
  · skip
    replace c1 : ¬ 32 ≤ s := fun zz => c1 ((nx_le (a := 32) (b := s) rfl rfl (by omega) (by omega)).mpr zz)
    refine go_blk (pc2 := 22) (L2 := [.int (nI m), .int (wI (fun i => HL i m) s), .int (nI s)]) (st2 := [.int (1 - ((nI m) - ((nI m) / 2) * 2)), .int (((nI s) >>> (((nI m) / 2) &&& 31)) &&& 1)]) (M2 := (A, G, PF)) (hs2 := []) (C := (¬ 2 = 0) ∧ (¬ 2 = 0) ∧ True) [(.iload_n 2, 0, 0), (.iload_n 0, 0, 0), (.iconst 2, 0, 0), (.idiv, 0, 0), (.ishr, 0, 0), (.iconst 1, 0, 0), (.iand, 0, 0), (.iconst 1, 0, 0), (.iload_n 0, 0, 0), (.iconst 2, 0, 0), (.irem, 0, 0), (.isub, 0, 0)] [] (by decide +kernel) rfl ⟨by decide, by decide, trivial⟩ ?_
    refine go_cmp (cnd := .ne) (off := 9) 31 (by decide +kernel) (by decide) (fun (c2 : ¬ (((nI s) >>> (((nI m) / 2) &&& 31)) &&& 1) = (1 - ((nI m) - ((nI m) / 2) * 2))) => ?_) (fun (c2 : (((nI s) >>> (((nI m) / 2) &&& 31)) &&& 1) = (1 - ((nI m) - ((nI m) / 2) * 2))) => ?_)
    · skip
      rw [HL_with m hm s (by omega)] at c2
      refine go_blk (pc2 := 34) (L2 := [.int (nI m), .int (wI (fun i => HL i m) s), .int ((nI s) + 1)]) (st2 := []) (M2 := (A, G, PF)) (hs2 := []) (C := True) [(.iinc 2 1, 0, 0)] [] (by decide +kernel) rfl trivial ?_
      refine go_goto (off := -30) 4 (by decide +kernel) (by decide) ?_
      exact go_as (ih (by omega) ) rfl (by first | rw [wI_t (by assumption), nI_1] | rw [wI_f (by assumption), nI_1]) rfl
    · skip
      rw [HL_with m hm s (by omega)] at c2
      refine go_blk (pc2 := 34) (L2 := [.int (nI m), .int ((wI (fun i => HL i m) s) ||| (1 <<< ((nI s) &&& 31))), .int ((nI s) + 1)]) (st2 := []) (M2 := (A, G, PF)) (hs2 := []) (C := True) [(.iload_n 1, 0, 0), (.iconst 1, 0, 0), (.iload_n 2, 0, 0), (.ishl, 0, 0), (.ior, 0, 0), (.istore_n 1, 0, 0), (.iinc 2 1, 0, 0)] [] (by decide +kernel) rfl trivial ?_
      refine go_goto (off := -30) 4 (by decide +kernel) (by decide) ?_
      exact go_as (ih (by omega) ) rfl (by first | rw [wI_t (by assumption), nI_1] | rw [wI_f (by assumption), nI_1]) rfl
set_option maxRecDepth 100000 in
set_option maxHeartbeats 4000000 in
theorem s_X6_with (l : Launch) (A : Nat → Nat → Int32) (G : Nat → Nat → Int64) (m : Nat) (hm : m < 10) : Sem l mX6_with [.int (nI m)] 27 (A, G, PF) 27 (pv (wI (fun i => HL i m) 32) (A, G, PF)) := by
  refine sem_of_go (by decide) rfl (by decide) (by decide) rfl (Nat.le_of_ble_eq_true rfl) ?_
  show Go l ro0 mX6_with 27 (A, G, PF) 0 [.int (nI m), .null, .null] [] 27 (pv (wI (fun i => HL i m) 32) (A, G, PF))
  refine go_blk (pc2 := 4) (L2 := [.int (nI m), .int 0, .int 0]) (st2 := []) (M2 := (A, G, PF)) (hs2 := []) (C := True) [(.iconst 0, 0, 0), (.istore_n 1, 0, 0), (.iconst 0, 0, 0), (.istore_n 2, 0, 0)] [] (by decide +kernel) rfl trivial ?_
  exact lp_X6_with l A G m hm 0 (by omega)
set_option maxRecDepth 100000 in
set_option maxHeartbeats 4000000 in
theorem lp_X6_bits (l : Launch) (A : Nat → Nat → Int32) (G : Nat → Nat → Int64) (x : Int32) : ∀ k, k ≤ 32 → Go l ro0 mX6_bits 27 (A, G, PF) 4 [.int x, .int (nI (pcn x k)), .int (nI k)] [] 27 (pv (nI (pcn x 32)) (A, G, PF)) := by
  refine down 32 (fun k hk ih  => ?_)
  refine go_blk (pc2 := 7) (L2 := [.int x, .int (nI (pcn x k)), .int (nI k)]) (st2 := [.int 32, .int (nI k)]) (M2 := (A, G, PF)) (hs2 := []) (C := True) [(.iload_n 2, 0, 0), (.bipush 32, 0, 0)] [] (by decide +kernel) rfl trivial ?_
  refine go_cmp (cnd := .ge) (off := 17) 24 (by decide +kernel) (by decide) (fun (c1 : 32 ≤ (nI k)) => ?_) (fun (c1 : ¬ 32 ≤ (nI k)) => ?_)
  · skip
    replace c1 : 32 ≤ k := (nx_le (a := 32) (b := k) rfl rfl (by omega) (by omega)).mp c1
    refine go_blk (pc2 := 25) (L2 := [.int x, .int (nI (pcn x k)), .int (nI k)]) (st2 := [.int (nI (pcn x k))]) (M2 := (A, G, PF)) (hs2 := []) (C := True) [(.iload_n 1, 0, 0)] [] (by decide +kernel) rfl trivial ?_
    exact go_reti (by decide +kernel) rfl (pve (by rw [show k = 32 by omega]))
  · skip
    replace c1 : ¬ 32 ≤ k := fun zz => c1 ((nx_le (a := 32) (b := k) rfl rfl (by omega) (by omega)).mpr zz)
    refine go_blk (pc2 := 21) (L2 := [.int x, .int ((nI (pcn x k)) + ((((x).toUInt32 >>> ((nI k).toUInt32 &&& Int32.toUInt32 31)).toInt32) &&& 1)), .int ((nI k) + 1)]) (st2 := []) (M2 := (A, G, PF)) (hs2 := []) (C := True) [(.iload_n 1, 0, 0), (.iload_n 0, 0, 0), (.iload_n 2, 0, 0), (.iushr, 0, 0), (.iconst 1, 0, 0), (.iand, 0, 0), (.iadd, 0, 0), (.istore_n 1, 0, 0), (.iinc 2 1, 0, 0)] [] (by decide +kernel) rfl trivial ?_
    refine go_goto (off := -17) 4 (by decide +kernel) (by decide) ?_
    exact go_as (ih (by omega) ) rfl (by rw [ushr_tb x (by omega), nI_if, nI_1]; rfl) rfl
set_option maxRecDepth 100000 in
set_option maxHeartbeats 4000000 in
theorem s_X6_bits (l : Launch) (A : Nat → Nat → Int32) (G : Nat → Nat → Int64) (x : Int32) : Sem l mX6_bits [.int x] 27 (A, G, PF) 27 (pv (nI (pcn x 32)) (A, G, PF)) := by
  refine sem_of_go (by decide) rfl (by decide) (by decide) rfl (Nat.le_of_ble_eq_true rfl) ?_
  show Go l ro0 mX6_bits 27 (A, G, PF) 0 [.int x, .null, .null] [] 27 (pv (nI (pcn x 32)) (A, G, PF))
  refine go_blk (pc2 := 4) (L2 := [.int x, .int 0, .int 0]) (st2 := []) (M2 := (A, G, PF)) (hs2 := []) (C := True) [(.iconst 0, 0, 0), (.istore_n 1, 0, 0), (.iconst 0, 0, 0), (.istore_n 2, 0, 0)] [] (by decide +kernel) rfl trivial ?_
  exact lp_X6_bits l A G x 0 (by omega)
set_option maxRecDepth 100000 in
set_option maxHeartbeats 4000000 in
theorem s_X6_compare (l : Launch) (A : Nat → Nat → Int32) (G : Nat → Nat → Int64) (a b c d : Int64) : Sem l mX6_compare [.long a, .long b, .long c, .long d] 27 (A, G, PF) 27 (pv (cmpI a b c d) (A, G, PF)) := by
  refine sem_of_go (by decide) rfl (by decide) (by decide) rfl (Nat.le_of_ble_eq_true rfl) ?_
  show Go l ro0 mX6_compare 27 (A, G, PF) 0 [.long a, .null, .long b, .null, .long c, .null, .long d, .null, .null, .null, .null, .null] [] 27 (pv (cmpI a b c d) (A, G, PF))
  refine go_blk (pc2 := 17) (L2 := [.long a, .null, .long b, .null, .long c, .null, .long d, .null, .long (a * d), .null, .long (c * b), .null]) (st2 := [.int (lg_cmp (a * d) (c * b))]) (M2 := (A, G, PF)) (hs2 := []) (C := True) [(.lload_n 0, 0, 0), (.lload 6, 0, 0), (.lmul, 0, 0), (.lstore 8, 0, 0), (.lload 4, 0, 0), (.lload_n 2, 0, 0), (.lmul, 0, 0), (.lstore 10, 0, 0), (.lload 8, 0, 0), (.lload 10, 0, 0), (.lcmp, 0, 0)] [] (by decide +kernel) rfl trivial ?_
  refine go_ifz (cnd := .ge) (off := 7) 24 (by decide +kernel) (by decide) (fun (c1 : 0 ≤ (lg_cmp (a * d) (c * b))) => ?_) (fun (c1 : ¬ 0 ≤ (lg_cmp (a * d) (c * b))) => ?_)
  · skip
    replace c1 : ¬ ((a * d) : Int64) < (c * b) := lg_ge2.mp c1
    refine go_blk (pc2 := 29) (L2 := [.long a, .null, .long b, .null, .long c, .null, .long d, .null, .long (a * d), .null, .long (c * b), .null]) (st2 := [.int (lg_cmp (a * d) (c * b))]) (M2 := (A, G, PF)) (hs2 := []) (C := True) [(.lload 8, 0, 0), (.lload 10, 0, 0), (.lcmp, 0, 0)] [] (by decide +kernel) rfl trivial ?_
    refine go_ifz (cnd := .le) (off := 7) 36 (by decide +kernel) (by decide) (fun (c2 : (lg_cmp (a * d) (c * b)) ≤ 0) => ?_) (fun (c2 : ¬ (lg_cmp (a * d) (c * b)) ≤ 0) => ?_)
    · skip
      replace c2 : ¬ ((c * b) : Int64) < (a * d) := lg_le2.mp c2
      refine go_blk (pc2 := 37) (L2 := [.long a, .null, .long b, .null, .long c, .null, .long d, .null, .long (a * d), .null, .long (c * b), .null]) (st2 := [.int 0]) (M2 := (A, G, PF)) (hs2 := []) (C := True) [(.iconst 0, 0, 0)] [] (by decide +kernel) rfl trivial ?_
      exact go_reti (by decide +kernel) rfl (pve (by unfold cmpI; first | rw [if_pos (by assumption)] | rw [if_neg (by assumption), if_pos (by assumption)] | rw [if_neg (by assumption), if_neg (by assumption)]))
    · skip
      replace c2 : ((c * b) : Int64) < (a * d) := Classical.byContradiction (fun zz => c2 (lg_le2.mpr zz))
      refine go_blk (pc2 := 33) (L2 := [.long a, .null, .long b, .null, .long c, .null, .long d, .null, .long (a * d), .null, .long (c * b), .null]) (st2 := [.int 1]) (M2 := (A, G, PF)) (hs2 := []) (C := True) [(.iconst 1, 0, 0)] [] (by decide +kernel) rfl trivial ?_
      refine go_goto (off := 4) 37 (by decide +kernel) (by decide) ?_
      exact go_reti (by decide +kernel) rfl (pve (by unfold cmpI; first | rw [if_pos (by assumption)] | rw [if_neg (by assumption), if_pos (by assumption)] | rw [if_neg (by assumption), if_neg (by assumption)]))
  · skip
    replace c1 : ((a * d) : Int64) < (c * b) := Classical.byContradiction (fun zz => c1 (lg_ge2.mpr zz))
    refine go_blk (pc2 := 21) (L2 := [.long a, .null, .long b, .null, .long c, .null, .long d, .null, .long (a * d), .null, .long (c * b), .null]) (st2 := [.int (-1)]) (M2 := (A, G, PF)) (hs2 := []) (C := True) [(.iconst (-1), 0, 0)] [] (by decide +kernel) rfl trivial ?_
    refine go_goto (off := 16) 37 (by decide +kernel) (by decide) ?_
    exact go_reti (by decide +kernel) rfl (pve (by unfold cmpI; first | rw [if_pos (by assumption)] | rw [if_neg (by assumption), if_pos (by assumption)] | rw [if_neg (by assumption), if_neg (by assumption)]))
set_option maxRecDepth 100000 in
set_option maxHeartbeats 4000000 in
theorem lp_X6_set (l : Launch) (A : Nat → Nat → Int32) (G : Nat → Nat → Int64) (mm P dm ncl cnt : Nat) (hM : Mm mm P dm) (h : Std A dm ncl cnt) (hP : P ≤ 32) : ∀ s, s ≤ P → Go l ro0 mX6_set 27 (A, G, PF) 4 [.ref 0, .int (nI mm), .int (wI (Wd A dm ncl) s), .int (nI s)] [] 27 (pv (wI (Wd A dm ncl) P) (A, G, PF)) := by
  refine down P (fun s hk ih  => ?_)
  refine go_blk (pc2 := 8) (L2 := [.ref 0, .int (nI mm), .int (wI (Wd A dm ncl) s), .int (nI s)]) (st2 := [.int (1 <<< ((nI mm) &&& 31)), .int (nI s)]) (M2 := (A, G, PF)) (hs2 := []) (C := True) [(.iload_n 3, 0, 0), (.iconst 1, 0, 0), (.iload_n 1, 0, 0), (.ishl, 0, 0)] [] (by decide +kernel) rfl trivial ?_
  refine go_cmp (cnd := .ge) (off := 23) 31 (by decide +kernel) (by decide) (fun (c1 : (1 <<< ((nI mm) &&& 31)) ≤ (nI s)) => ?_) (fun (c1 : ¬ (1 <<< ((nI mm) &&& 31)) ≤ (nI s)) => ?_)
  · skip
    replace c1 : P ≤ s := (nx_le (a := P) (b := s) hM.pw rfl (by omega) (by omega)).mp c1
    refine go_blk (pc2 := 32) (L2 := [.ref 0, .int (nI mm), .int (wI (Wd A dm ncl) s), .int (nI s)]) (st2 := [.int (wI (Wd A dm ncl) s)]) (M2 := (A, G, PF)) (hs2 := []) (C := True) [(.iload_n 2, 0, 0)] [] (by decide +kernel) rfl trivial ?_
    exact go_reti (by decide +kernel) rfl (pve (by rw [show s = P by omega]))
  · skip
    replace c1 : ¬ P ≤ s := fun zz => c1 ((nx_le (a := P) (b := s) hM.pw rfl (by omega) (by omega)).mpr zz)
    refine go_blk (pc2 := 13) (L2 := [.ref 0, .int (nI mm), .int (wI (Wd A dm ncl) s), .int (nI s)]) (st2 := [.int (nI s), .ref 0]) (M2 := (A, G, PF)) (hs2 := []) (C := True) [(.aload_n 0, 0, 0), (.iload_n 3, 0, 0)] [] (by decide +kernel) rfl trivial ?_
    refine go_call (Y2 := mX5_world) (n2 := 27) (st := []) [.ref 0] [.int (nI s)] ck_6_31 cwX5_world rfl (by decide +kernel) rfl (fun h => absurd h (by decide)) (fun _ => ⟨0, rfl, by decide, rfl⟩) (Nat.le_of_ble_eq_true rfl) (Or.inl rfl) (fun _ _ _ h => h) (q_world l G hM h (show s < P by omega)) (fun v M2 hp2 => ?_)
    obtain ⟨rfl, rfl⟩ := hp2
    rcases Classical.em (Wd A dm ncl s) with hb3 | hb3
    · rw [bi_t hb3]
      show Go l ro0 mX6_set 27 (A, G, PF) 16 [.ref 0, .int (nI mm), .int (wI (Wd A dm ncl) s), .int (nI s)] [.int 1] 27 _
      refine go_ifz (cnd := .eq) (off := 9) 25 (by decide +kernel) (by decide) (fun (h : (1 : Int32) = 0) => absurd h (by decide)) (fun _ => ?_)
      refine go_blk (pc2 := 28) (L2 := [.ref 0, .int (nI mm), .int ((wI (Wd A dm ncl) s) ||| (1 <<< ((nI s) &&& 31))), .int ((nI s) + 1)]) (st2 := []) (M2 := (A, G, PF)) (hs2 := []) (C := True) [(.iload_n 2, 0, 0), (.iconst 1, 0, 0), (.iload_n 3, 0, 0), (.ishl, 0, 0), (.ior, 0, 0), (.istore_n 2, 0, 0), (.iinc 3 1, 0, 0)] [] (by decide +kernel) rfl trivial ?_
      refine go_goto (off := -24) 4 (by decide +kernel) (by decide) ?_
      exact go_as (ih (by omega) ) rfl (by first | rw [wI_t (by assumption), nI_1] | rw [wI_f (by assumption), nI_1]) rfl
    · rw [bi_f hb3]
      show Go l ro0 mX6_set 27 (A, G, PF) 16 [.ref 0, .int (nI mm), .int (wI (Wd A dm ncl) s), .int (nI s)] [.int 0] 27 _
      refine go_ifz (cnd := .eq) (off := 9) 25 (by decide +kernel) (by decide) (fun _ => ?_) (fun (h : ¬ (0 : Int32) = 0) => absurd h (by decide))
      refine go_blk (pc2 := 28) (L2 := [.ref 0, .int (nI mm), .int (wI (Wd A dm ncl) s), .int ((nI s) + 1)]) (st2 := []) (M2 := (A, G, PF)) (hs2 := []) (C := True) [(.iinc 3 1, 0, 0)] [] (by decide +kernel) rfl trivial ?_
      refine go_goto (off := -24) 4 (by decide +kernel) (by decide) ?_
      exact go_as (ih (by omega) ) rfl (by first | rw [wI_t (by assumption), nI_1] | rw [wI_f (by assumption), nI_1]) rfl
set_option maxRecDepth 100000 in
set_option maxHeartbeats 4000000 in
theorem s_X6_set (l : Launch) (A : Nat → Nat → Int32) (G : Nat → Nat → Int64) (mm P dm ncl cnt : Nat) (hM : Mm mm P dm) (h : Std A dm ncl cnt) : Sem l mX6_set [.ref 0, .int (nI mm)] 27 (A, G, PF) 27 (pv (wI (Wd A dm ncl) 32) (A, G, PF)) := by
  refine sem_of_go (by decide) rfl (by decide) (by decide) rfl (Nat.le_of_ble_eq_true rfl) ?_
  show Go l ro0 mX6_set 27 (A, G, PF) 0 [.ref 0, .int (nI mm), .null, .null] [] 27 (pv (wI (Wd A dm ncl) 32) (A, G, PF))
  refine go_blk (pc2 := 4) (L2 := [.ref 0, .int (nI mm), .int 0, .int 0]) (st2 := []) (M2 := (A, G, PF)) (hs2 := []) (C := True) [(.iconst 0, 0, 0), (.istore_n 2, 0, 0), (.iconst 0, 0, 0), (.istore_n 3, 0, 0)] [] (by decide +kernel) rfl trivial ?_
  rw [← hM.wI A ncl]
  exact lp_X6_set l A G mm P dm ncl cnt hM h hM.le.1 0 (by omega)
end
section
/-! ===== a literal as one more clause, taken back ===== -/
theorem q_push (l : Launch) {B A : Nat → Nat → Int32} (G : Nat → Nat → Int64) {ncl : Nat} {lf : Nat → Nat} (h : Ext B A ncl lf 0 0) : Sem l mX5_push [.ref 0] 27 (A, G, PF) 27 (fun r M2 => r = some (.int 1) ∧ ∃ A2, M2 = (A2, G, PF) ∧ Ext B A2 ncl lf 0 1) := by
  refine (s_X5_push l A G 0 h.2.2.2.2.1 (by decide)).mono ?_
  rintro v M (⟨-, rfl, rfl⟩ | ⟨z, -⟩)
  · exact ⟨by rw [h.2.2.2.2.1]; rfl, _, rfl, h.push⟩
  · exact absurd z (by decide)
theorem q_clause (l : Launch) {B A : Nat → Nat → Int32} (G : Nat → Nat → Int64) {dm ncl j : Nat} {lf : Nat → Nat} (hK : KI B dm ncl) (h : Ext B A ncl lf j 1) (h8 : ncl + j < 8) (hm : lf j < 10) (ht : dm.testBit (lf j / 2) = true) {x : Int32} (hx : x = nI (lf j)) : Sem l mX5_clause [.ref 0, .int x, .int (-1), .int (-1)] 27 (A, G, PF) 27 (fun r M2 => r = some (.int (nI (ncl + j + 1))) ∧ ∃ A2, M2 = (A2, G, PF) ∧ Ext B A2 ncl lf (j + 1) 1) := by
  subst hx
  have hKA := h.ki hK (by omega)
  refine (s_X5_clause l A G dm hKA.2.2.1 hKA.2.2.2.1 (ncl + j) h.2.2.2.1 (by omega) (nI (lf j)) (-1) (-1)).mono ?_
  have hok : ClOk dm (nI (lf j)) (-1) (-1) := ⟨fun z => z.2 rfl, (Dfd_nI hm).mpr ht, Or.inl rfl, Or.inl rfl⟩
  rintro v M (⟨-, -, rfl, rfl⟩ | ⟨-, z, -⟩ | ⟨z, -⟩)
  · exact ⟨by rw [h.2.2.2.1, nI_1], _, rfl, h.add h8 hm⟩
  · omega
  · exact absurd hok z
theorem q_pop (l : Launch) {B A : Nat → Nat → Int32} (G : Nat → Nat → Int64) {ncl j : Nat} {lf : Nat → Nat} (h : Ext B A ncl lf j 1) (lf2 : Nat → Nat) : Sem l mX5_pop [.ref 0] 27 (A, G, PF) 27 (fun r M2 => r = some (.int 0) ∧ ∃ A2, M2 = (A2, G, PF) ∧ Ext B A2 ncl lf2 0 0) := by
  refine (s_X5_pop l A G 1 h.2.2.2.2.1 (by decide)).mono ?_
  rintro v M (⟨-, rfl, rfl⟩ | ⟨z, -⟩)
  · exact ⟨by rw [h.2.2.2.2.1]; rfl, _, rfl, h.pop lf2⟩
  · exact absurd z (by decide)
theorem hv_of {A : Nat → Nat → Int32} {dm n m : Nat} {V : Nat → Prop} (hV : ∀ s, s < 32 → (Wd A dm n s ↔ V s)) : hv A dm n m = if wI (fun s => V s ∧ HL s m) 32 = 0 then 0 else if wI (fun s => V s ∧ HL s m) 32 = wI V 32 then 2 else 1 := by
  have e1 : SW A dm n m 32 ↔ ¬ wI (fun s => V s ∧ HL s m) 32 = 0 := by
    rw [wI_z]
    constructor
    · rintro ⟨s, h1, h2, h3⟩ z
      exact z s h1 ⟨(hV s h1).mp h2, h3⟩
    · intro z
      refine Classical.byContradiction fun q => z fun s hs hh => q ⟨s, hs, (hV s hs).mpr hh.1, hh.2⟩
  have e2 : EW A dm n m 32 ↔ wI (fun s => V s ∧ HL s m) 32 = wI V 32 := by
    constructor
    · intro h
      exact wI_c fun s hs => ⟨fun z => z.1, fun z => ⟨z, h s hs ((hV s hs).mpr z)⟩⟩
    · intro h s hs hw
      exact ((wI_eq h hs).mpr ((hV s hs).mp hw)).2
  unfold hv
  by_cases q : wI (fun s => V s ∧ HL s m) 32 = 0
  · rw [if_pos q, if_neg fun z => e1.mp z q]
  · rw [if_neg q, if_pos (e1.mpr q)]
    by_cases q2 : wI (fun s => V s ∧ HL s m) 32 = wI V 32
    · rw [if_pos q2, if_pos (e2.mpr q2)]
    · rw [if_neg q2, if_neg fun z => q2 (e2.mp z)]
noncomputable def ptw (B : Nat → Nat → Int32) (dm ncl m : Nat) : Int32 := wI (fun s => Wd B dm ncl s ∧ HL s m) 32
theorem pt_and (B : Nat → Nat → Int32) (dm ncl m : Nat) : ptw B dm ncl m = wI (Wd B dm ncl) 32 &&& wI (fun i => HL i m) 32 := (wI_and _ _).symm
theorem pt_set {B A : Nat → Nat → Int32} {dm ncl m : Nat} (h : Ext B A ncl (fun _ => m) 1 1) (hm : m < 10) : wI (Wd A dm (ncl + 1)) 32 = ptw B dm ncl m := wI_c fun s hs => by
  rw [h.wd (fun _ _ => hm) s]
  exact ⟨fun z => ⟨z.1, z.2 0 (by decide)⟩, fun z => ⟨z.1, fun i _ => z.2⟩⟩
theorem pt_hv {B A : Nat → Nat → Int32} {dm ncl m : Nat} (h : Ext B A ncl (fun _ => m) 1 1) (hm : m < 10) : hv A dm (ncl + 1) m = if ptw B dm ncl m = 0 then 0 else 2 := by
  have e := hv_of (A := A) (dm := dm) (n := ncl + 1) (m := m) (V := fun s => Wd B dm ncl s ∧ HL s m) fun s hs => by
    rw [h.wd (fun _ _ => hm) s]
    exact ⟨fun z => ⟨z.1, z.2 0 (by decide)⟩, fun z => ⟨z.1, fun i _ => z.2⟩⟩
  have e2 : wI (fun s => (Wd B dm ncl s ∧ HL s m) ∧ HL s m) 32 = ptw B dm ncl m := wI_c fun s hs => ⟨fun z => z.1, fun z => ⟨z, z.2⟩⟩
  rw [e, e2]
  by_cases q : ptw B dm ncl m = 0
  · rw [if_pos q, if_pos q]
  · rw [if_neg q, if_neg q]
    exact if_pos rfl
theorem pt_hv0 {B A : Nat → Nat → Int32} {dm ncl m : Nat} {lf : Nat → Nat} (h : Ext B A ncl lf 0 0) : hv A dm ncl m = if ptw B dm ncl m = 0 then 0 else if ptw B dm ncl m = wI (Wd B dm ncl) 32 then 2 else 1 :=
  hv_of (A := A) (dm := dm) (n := ncl) (m := m) (V := Wd B dm ncl) fun s hs => by
    rw [show Wd A dm ncl s ↔ Wd A dm (ncl + 0) s from Iff.rfl, h.wd (fun i hi => absurd hi (Nat.not_lt_zero i)) s]
    exact ⟨fun z => z.1, fun z => ⟨z, fun i hi => absurd hi (Nat.not_lt_zero i)⟩⟩
theorem wd_0 {B A : Nat → Nat → Int32} {dm ncl : Nat} {lf : Nat → Nat} (h : Ext B A ncl lf 0 0) : wI (Wd A dm ncl) 32 = wI (Wd B dm ncl) 32 := wI_c fun s hs => by
  rw [show Wd A dm ncl s ↔ Wd A dm (ncl + 0) s from Iff.rfl, h.wd (fun i hi => absurd hi (Nat.not_lt_zero i)) s]
  exact ⟨fun z => z.1, fun z => ⟨z, fun i hi => absurd hi (Nat.not_lt_zero i)⟩⟩
theorem pt_or (B : Nat → Nat → Int32) (dm ncl k : Nat) : (0 ||| ptw B dm ncl (2 * k)) ||| ptw B dm ncl (2 * k + 1) = wI (Wd B dm ncl) 32 := by
  rw [Int32.zero_or]
  unfold ptw
  rw [wI_or]
  refine wI_c fun s hs => ⟨fun z => z.elim (fun z => z.1) (fun z => z.1), fun z => ?_⟩
  have h1 : HL s (2 * k) ↔ s.testBit k = true := by
    unfold HL
    rw [show 2 * k / 2 = k by omega, show 2 * k % 2 = 0 by omega]
    exact ⟨fun z => z.mpr rfl, fun z => ⟨fun _ => rfl, fun _ => z⟩⟩
  have h2 : HL s (2 * k + 1) ↔ ¬ s.testBit k = true := by
    unfold HL
    rw [show (2 * k + 1) / 2 = k by omega, show (2 * k + 1) % 2 = 1 by omega]
    exact ⟨fun z q => absurd (z.mp q) (by decide), fun z => ⟨fun q => absurd q z, fun q => absurd q (by decide)⟩⟩
  rcases Classical.em (s.testBit k = true) with q | q
  · exact Or.inl ⟨z, h1.mpr q⟩
  · exact Or.inr ⟨z, h2.mpr q⟩
set_option maxRecDepth 100000 in
set_option maxHeartbeats 4000000 in
theorem lb_X6_halves (l : Launch) (B A : Nat → Nat → Int32) (G : Nat → Nat → Int64) (mm P dm ncl cnt : Nat) (hM : Mm mm P dm) (hB : Std B dm ncl cnt) (h3 : ncl ≤ 3) (k m : Nat) (x : Int32) (hx : x = nI m) (hm : m < 10) (ht : dm.testBit (m / 2) = true) (f : Int32) (j6 j7 j8 : Value) (hE : Ext B A ncl (fun _ => 0) 0 0) (hout : ∀ A2, Ext B A2 ncl (fun _ => 0) 0 0 → ∀ j6 j7 j8 : Value, Go l ro0 mX6_halves 27 (A2, G, PF) 15 [.ref 0, .int (nI mm), .int (wI (Wd B dm ncl) 32), .int (nI k), .int (f ||| (ptw B dm ncl m)), .int (x + 1), j6, j7, j8] [] 27 (fun r M2 => r = some (.int 1) ∧ ∃ A2, M2 = (A2, G, PF) ∧ Ext B A2 ncl (fun _ => 0) 0 0)) : Go l ro0 mX6_halves 27 (A, G, PF) 25 [.ref 0, .int (nI mm), .int (wI (Wd B dm ncl) 32), .int (nI k), .int f, .int x, j6, j7, j8] [] 27 (fun r M2 => r = some (.int 1) ∧ ∃ A2, M2 = (A2, G, PF) ∧ Ext B A2 ncl (fun _ => 0) 0 0) := by
  refine go_blk (pc2 := 26) (L2 := [.ref 0, .int (nI mm), .int (wI (Wd B dm ncl) 32), .int (nI k), .int f, .int x, j6, j7, j8]) (st2 := [.ref 0]) (M2 := (A, G, PF)) (hs2 := []) (C := True) [(.aload_n 0, 0, 0)] [] (by decide +kernel) rfl trivial ?_
  refine go_call (Y2 := mX5_push) (n2 := 27) (st := []) [.ref 0] [] ck_6_38 cwX5_push rfl (by decide +kernel) rfl (fun h => absurd h (by decide)) (fun _ => ⟨0, rfl, by decide, rfl⟩) (Nat.le_of_ble_eq_true rfl) (Or.inl rfl) (fun _ _ _ h => h) (q_push l G (hE.lf (fun _ => m))) (fun v M2 hp1 => ?_)
  obtain ⟨rfl, A1, rfl, hEA1⟩ := hp1
  show Go l ro0 mX6_halves 27 (A1, G, PF) 29 [.ref 0, .int (nI mm), .int (wI (Wd B dm ncl) 32), .int (nI k), .int f, .int x, j6, j7, j8] [.int 1] 27 _
  refine go_blk (pc2 := 36) (L2 := [.ref 0, .int (nI mm), .int (wI (Wd B dm ncl) 32), .int (nI k), .int f, .int x, .int 1, j7, j8]) (st2 := [.int (-1), .int (-1), .int x, .ref 0]) (M2 := (A1, G, PF)) (hs2 := []) (C := True) [(.istore 6, 0, 0), (.aload_n 0, 0, 0), (.iload 5, 0, 0), (.iconst (-1), 0, 0), (.iconst (-1), 0, 0)] [] (by decide +kernel) rfl trivial ?_
  refine go_call (Y2 := mX5_clause) (n2 := 27) (st := []) [.ref 0] [.int x, .int (-1), .int (-1)] ck_6_27 cwX5_clause rfl (by decide +kernel) rfl (fun h => absurd h (by decide)) (fun _ => ⟨0, rfl, by decide, rfl⟩) (Nat.le_of_ble_eq_true rfl) (Or.inl rfl) (fun _ _ _ h => h) (q_clause l G (lf := fun _ => m) hB.1 hEA1 (by omega) hm ht hx) (fun v M2 hp2 => ?_)
  obtain ⟨rfl, A2, rfl, hEA2⟩ := hp2
  show Go l ro0 mX6_halves 27 (A2, G, PF) 39 [.ref 0, .int (nI mm), .int (wI (Wd B dm ncl) 32), .int (nI k), .int f, .int x, .int 1, j7, j8] [.int (nI (ncl + 0 + 1))] 27 _
  refine go_blk (pc2 := 40) (L2 := [.ref 0, .int (nI mm), .int (wI (Wd B dm ncl) 32), .int (nI k), .int f, .int x, .int 1, j7, j8]) (st2 := [.int 1, .int (nI (ncl + 0 + 1))]) (M2 := (A2, G, PF)) (hs2 := []) (C := True) [(.iconst 1, 0, 0)] [] (by decide +kernel) rfl trivial ?_
  refine go_cmp (cnd := .ge) (off := 5) 45 (by decide +kernel) (by decide) (fun _ => ?_) (fun (h : ¬ 1 ≤ (nI (ncl + 0 + 1))) => absurd h (fun zz => zz ((nx_le (a := 1) (b := (ncl + 0 + 1)) rfl rfl (by omega) (by omega)).mpr (by omega))))
  refine go_blk (pc2 := 47) (L2 := [.ref 0, .int (nI mm), .int (wI (Wd B dm ncl) 32), .int (nI k), .int f, .int x, .int 1, j7, j8]) (st2 := [.int (nI mm), .ref 0]) (M2 := (A2, G, PF)) (hs2 := []) (C := True) [(.aload_n 0, 0, 0), (.iload_n 1, 0, 0)] [] (by decide +kernel) rfl trivial ?_
  refine go_call (Y2 := mX6_set) (n2 := 27) (st := []) [] [.ref 0, .int (nI mm)] ck_6_42 cwX6_set rfl (by decide +kernel) rfl (fun _ => rfl) (fun h => absurd rfl h) (Nat.le_of_ble_eq_true rfl) (Or.inl rfl) (fun _ _ _ h => h) (s_X6_set l A2 G mm P dm (ncl + 1) cnt hM (hEA2.std hB (by omega))) (fun v M2 hp3 => ?_)
  obtain ⟨rfl, rfl⟩ := hp3
  rw [pt_set hEA2 hm]
  show Go l ro0 mX6_halves 27 (A2, G, PF) 50 [.ref 0, .int (nI mm), .int (wI (Wd B dm ncl) 32), .int (nI k), .int f, .int x, .int 1, j7, j8] [.int (ptw B dm ncl m)] 27 _
  refine go_blk (pc2 := 57) (L2 := [.ref 0, .int (nI mm), .int (wI (Wd B dm ncl) 32), .int (nI k), .int f, .int x, .int 1, .int (ptw B dm ncl m), j8]) (st2 := [.int x, .int (wI (Wd B dm ncl) 32), .int (ptw B dm ncl m)]) (M2 := (A2, G, PF)) (hs2 := []) (C := True) [(.istore 7, 0, 0), (.iload 7, 0, 0), (.iload_n 2, 0, 0), (.iload 5, 0, 0)] [] (by decide +kernel) rfl trivial ?_
  refine go_call (Y2 := mX6_with) (n2 := 27) (st := [.int (wI (Wd B dm ncl) 32), .int (ptw B dm ncl m)]) [] [.int x] ck_6_35 cwX6_with rfl (by decide +kernel) rfl (fun _ => rfl) (fun h => absurd rfl h) (Nat.le_of_ble_eq_true rfl) (Or.inl rfl) (fun _ _ _ h => h) (by rw [hx]; exact s_X6_with l A2 G m hm) (fun v M2 hp4 => ?_)
  obtain ⟨rfl, rfl⟩ := hp4
  show Go l ro0 mX6_halves 27 (A2, G, PF) 60 [.ref 0, .int (nI mm), .int (wI (Wd B dm ncl) 32), .int (nI k), .int f, .int x, .int 1, .int (ptw B dm ncl m), j8] [.int (wI (fun i => HL i m) 32), .int (wI (Wd B dm ncl) 32), .int (ptw B dm ncl m)] 27 _
  refine go_blk (pc2 := 61) (L2 := [.ref 0, .int (nI mm), .int (wI (Wd B dm ncl) 32), .int (nI k), .int f, .int x, .int 1, .int (ptw B dm ncl m), j8]) (st2 := [.int ((wI (Wd B dm ncl) 32) &&& (wI (fun i => HL i m) 32)), .int (ptw B dm ncl m)]) (M2 := (A2, G, PF)) (hs2 := []) (C := True) [(.iand, 0, 0)] [] (by decide +kernel) rfl trivial ?_
  refine go_cmp (cnd := .ne) (off := 33) 94 (by decide +kernel) (by decide) (fun (h : ¬ (ptw B dm ncl m) = ((wI (Wd B dm ncl) 32) &&& (wI (fun i => HL i m) 32))) => absurd h (fun zz => zz (pt_and B dm ncl m))) (fun _ => ?_)
  refine go_blk (pc2 := 67) (L2 := [.ref 0, .int (nI mm), .int (wI (Wd B dm ncl) 32), .int (nI k), .int f, .int x, .int 1, .int (ptw B dm ncl m), j8]) (st2 := [.int x, .ref 0]) (M2 := (A2, G, PF)) (hs2 := []) (C := True) [(.aload_n 0, 0, 0), (.iload 5, 0, 0)] [] (by decide +kernel) rfl trivial ?_
  refine go_call (Y2 := mX5_holds) (n2 := 27) (st := []) [.ref 0] [.int x] ck_6_46 cwX5_holds rfl (by decide +kernel) rfl (fun h => absurd h (by decide)) (fun _ => ⟨0, rfl, by decide, rfl⟩) (Nat.le_of_ble_eq_true rfl) (Or.inl rfl) (fun _ _ _ h => h) (by rw [hx]; exact q_holds l G (hEA2.std hB (by omega)) hm ht) (fun v M2 hp5 => ?_)
  obtain ⟨rfl, rfl⟩ := hp5
  show Go l ro0 mX6_halves 27 (A2, G, PF) 70 [.ref 0, .int (nI mm), .int (wI (Wd B dm ncl) 32), .int (nI k), .int f, .int x, .int 1, .int (ptw B dm ncl m), j8] [.int (hv A2 dm (ncl + 1) m)] 27 _
  refine go_blk (pc2 := 72) (L2 := [.ref 0, .int (nI mm), .int (wI (Wd B dm ncl) 32), .int (nI k), .int f, .int x, .int 1, .int (ptw B dm ncl m), j8]) (st2 := [.int (ptw B dm ncl m), .int (hv A2 dm (ncl + 1) m)]) (M2 := (A2, G, PF)) (hs2 := []) (C := True) [(.iload 7, 0, 0)] [] (by decide +kernel) rfl trivial ?_
  refine go_ifz (cnd := .ne) (off := 7) 79 (by decide +kernel) (by decide) (fun (c6 : ¬ (ptw B dm ncl m) = 0) => ?_) (fun (c6 : (ptw B dm ncl m) = 0) => ?_)
  · skip
    refine go_blk (pc2 := 80) (L2 := [.ref 0, .int (nI mm), .int (wI (Wd B dm ncl) 32), .int (nI k), .int f, .int x, .int 1, .int (ptw B dm ncl m), j8]) (st2 := [.int 2, .int (hv A2 dm (ncl + 1) m)]) (M2 := (A2, G, PF)) (hs2 := []) (C := True) [(.iconst 2, 0, 0)] [] (by decide +kernel) rfl trivial ?_
    refine go_cmp (cnd := .ne) (off := 14) 94 (by decide +kernel) (by decide) (fun (h : ¬ (hv A2 dm (ncl + 1) m) = 2) => absurd h (fun zz => zz (by rw [pt_hv hEA2 hm]; first | rw [if_pos (by assumption)] | rw [if_neg (by assumption)]))) (fun _ => ?_)
    refine go_blk (pc2 := 84) (L2 := [.ref 0, .int (nI mm), .int (wI (Wd B dm ncl) 32), .int (nI k), .int f, .int x, .int 1, .int (ptw B dm ncl m), j8]) (st2 := [.ref 0]) (M2 := (A2, G, PF)) (hs2 := []) (C := True) [(.aload_n 0, 0, 0)] [] (by decide +kernel) rfl trivial ?_
    refine go_call (Y2 := mX5_pop) (n2 := 27) (st := []) [.ref 0] [] ck_6_49 cwX5_pop rfl (by decide +kernel) rfl (fun h => absurd h (by decide)) (fun _ => ⟨0, rfl, by decide, rfl⟩) (Nat.le_of_ble_eq_true rfl) (Or.inl rfl) (fun _ _ _ h => h) (q_pop l G hEA2 (fun _ => 0)) (fun v M2 hp7 => ?_)
    obtain ⟨rfl, A3, rfl, hEA3⟩ := hp7
    show Go l ro0 mX6_halves 27 (A3, G, PF) 87 [.ref 0, .int (nI mm), .int (wI (Wd B dm ncl) 32), .int (nI k), .int f, .int x, .int 1, .int (ptw B dm ncl m), j8] [.int 0] 27 _
    refine go_blk (pc2 := 91) (L2 := [.ref 0, .int (nI mm), .int (wI (Wd B dm ncl) 32), .int (nI k), .int f, .int x, .int 1, .int (ptw B dm ncl m), j8]) (st2 := [.int (1 - 1), .int 0]) (M2 := (A3, G, PF)) (hs2 := []) (C := True) [(.iload 6, 0, 0), (.iconst 1, 0, 0), (.isub, 0, 0)] [] (by decide +kernel) rfl trivial ?_
    refine go_cmp (cnd := .eq) (off := 5) 96 (by decide +kernel) (by decide) (fun _ => ?_) (fun (h : ¬ (0 : Int32) = (1 - 1)) => absurd h (fun zz => zz (by decide)))
    refine go_blk (pc2 := 98) (L2 := [.ref 0, .int (nI mm), .int (wI (Wd B dm ncl) 32), .int (nI k), .int f, .int x, .int 1, .int (ptw B dm ncl m), j8]) (st2 := [.int (ptw B dm ncl m)]) (M2 := (A3, G, PF)) (hs2 := []) (C := True) [(.iload 7, 0, 0)] [] (by decide +kernel) rfl trivial ?_
    refine go_ifz (cnd := .ne) (off := 7) 105 (by decide +kernel) (by decide) (fun _ => ?_) (fun (h : (ptw B dm ncl m) = 0) => absurd h (by assumption))
    refine go_blk (pc2 := 108) (L2 := [.ref 0, .int (nI mm), .int (wI (Wd B dm ncl) 32), .int (nI k), .int f, .int x, .int 1, .int (ptw B dm ncl m), j8]) (st2 := [.int (wI (Wd B dm ncl) 32), .int (ptw B dm ncl m)]) (M2 := (A3, G, PF)) (hs2 := []) (C := True) [(.iload 7, 0, 0), (.iload_n 2, 0, 0)] [] (by decide +kernel) rfl trivial ?_
    refine go_cmp (cnd := .ne) (off := 7) 115 (by decide +kernel) (by decide) (fun (c8 : ¬ (ptw B dm ncl m) = (wI (Wd B dm ncl) 32)) => ?_) (fun (c8 : (ptw B dm ncl m) = (wI (Wd B dm ncl) 32)) => ?_)
    · skip
      refine go_blk (pc2 := 121) (L2 := [.ref 0, .int (nI mm), .int (wI (Wd B dm ncl) 32), .int (nI k), .int f, .int x, .int 1, .int (ptw B dm ncl m), .int 1]) (st2 := [.int x, .ref 0]) (M2 := (A3, G, PF)) (hs2 := []) (C := True) [(.iconst 1, 0, 0), (.istore 8, 0, 0), (.aload_n 0, 0, 0), (.iload 5, 0, 0)] [] (by decide +kernel) rfl trivial ?_
      refine go_call (Y2 := mX5_holds) (n2 := 27) (st := []) [.ref 0] [.int x] ck_6_46 cwX5_holds rfl (by decide +kernel) rfl (fun h => absurd h (by decide)) (fun _ => ⟨0, rfl, by decide, rfl⟩) (Nat.le_of_ble_eq_true rfl) (Or.inl rfl) (fun _ _ _ h => h) (by rw [hx]; exact q_holds l G (show Std A3 dm ncl cnt from hEA3.std hB (by omega)) hm ht) (fun v M2 hp9 => ?_)
      obtain ⟨rfl, rfl⟩ := hp9
      show Go l ro0 mX6_halves 27 (A3, G, PF) 124 [.ref 0, .int (nI mm), .int (wI (Wd B dm ncl) 32), .int (nI k), .int f, .int x, .int 1, .int (ptw B dm ncl m), .int 1] [.int (hv A3 dm ncl m)] 27 _
      refine go_blk (pc2 := 126) (L2 := [.ref 0, .int (nI mm), .int (wI (Wd B dm ncl) 32), .int (nI k), .int f, .int x, .int 1, .int (ptw B dm ncl m), .int 1]) (st2 := [.int 1, .int (hv A3 dm ncl m)]) (M2 := (A3, G, PF)) (hs2 := []) (C := True) [(.iload 8, 0, 0)] [] (by decide +kernel) rfl trivial ?_
      refine go_cmp (cnd := .ne) (off := 12) 138 (by decide +kernel) (by decide) (fun (h : ¬ (hv A3 dm ncl m) = 1) => absurd h (fun zz => zz (by rw [pt_hv0 hEA3]; first | rw [if_pos (by assumption)] | rw [if_neg (by assumption), if_pos (by assumption)] | rw [if_neg (by assumption), if_neg (by assumption)]))) (fun _ => ?_)
      refine go_blk (pc2 := 131) (L2 := [.ref 0, .int (nI mm), .int (wI (Wd B dm ncl) 32), .int (nI k), .int f, .int x, .int 1, .int (ptw B dm ncl m), .int 1]) (st2 := [.int (nI mm), .ref 0]) (M2 := (A3, G, PF)) (hs2 := []) (C := True) [(.aload_n 0, 0, 0), (.iload_n 1, 0, 0)] [] (by decide +kernel) rfl trivial ?_
      refine go_call (Y2 := mX6_set) (n2 := 27) (st := []) [] [.ref 0, .int (nI mm)] ck_6_42 cwX6_set rfl (by decide +kernel) rfl (fun _ => rfl) (fun h => absurd rfl h) (Nat.le_of_ble_eq_true rfl) (Or.inl rfl) (fun _ _ _ h => h) (s_X6_set l A3 G mm P dm ncl cnt hM (hEA3.std hB (by omega))) (fun v M2 hp10 => ?_)
      obtain ⟨rfl, rfl⟩ := hp10
      rw [wd_0 hEA3]
      show Go l ro0 mX6_halves 27 (A3, G, PF) 134 [.ref 0, .int (nI mm), .int (wI (Wd B dm ncl) 32), .int (nI k), .int f, .int x, .int 1, .int (ptw B dm ncl m), .int 1] [.int (wI (Wd B dm ncl) 32)] 27 _
      refine go_blk (pc2 := 135) (L2 := [.ref 0, .int (nI mm), .int (wI (Wd B dm ncl) 32), .int (nI k), .int f, .int x, .int 1, .int (ptw B dm ncl m), .int 1]) (st2 := [.int (wI (Wd B dm ncl) 32), .int (wI (Wd B dm ncl) 32)]) (M2 := (A3, G, PF)) (hs2 := []) (C := True) [(.iload_n 2, 0, 0)] [] (by decide +kernel) rfl trivial ?_
      refine go_cmp (cnd := .eq) (off := 5) 140 (by decide +kernel) (by decide) (fun _ => ?_) (fun (h : ¬ (wI (Wd B dm ncl) 32) = (wI (Wd B dm ncl) 32)) => absurd h (fun zz => zz rfl))
      refine go_blk (pc2 := 150) (L2 := [.ref 0, .int (nI mm), .int (wI (Wd B dm ncl) 32), .int (nI k), .int (f ||| (ptw B dm ncl m)), .int (x + 1), .int 1, .int (ptw B dm ncl m), .int 1]) (st2 := []) (M2 := (A3, G, PF)) (hs2 := []) (C := True) [(.iload 4, 0, 0), (.iload 7, 0, 0), (.ior, 0, 0), (.istore 4, 0, 0), (.iinc 5 1, 0, 0)] [] (by decide +kernel) rfl trivial ?_
      refine go_goto (off := -135) 15 (by decide +kernel) (by decide) ?_
      exact hout A3 hEA3 _ _ _
    · skip
      refine go_blk (pc2 := 112) (L2 := [.ref 0, .int (nI mm), .int (wI (Wd B dm ncl) 32), .int (nI k), .int f, .int x, .int 1, .int (ptw B dm ncl m), j8]) (st2 := [.int 2]) (M2 := (A3, G, PF)) (hs2 := []) (C := True) [(.iconst 2, 0, 0)] [] (by decide +kernel) rfl trivial ?_
      refine go_goto (off := 4) 116 (by decide +kernel) (by decide) ?_
      refine go_blk (pc2 := 121) (L2 := [.ref 0, .int (nI mm), .int (wI (Wd B dm ncl) 32), .int (nI k), .int f, .int x, .int 1, .int (ptw B dm ncl m), .int 2]) (st2 := [.int x, .ref 0]) (M2 := (A3, G, PF)) (hs2 := []) (C := True) [(.istore 8, 0, 0), (.aload_n 0, 0, 0), (.iload 5, 0, 0)] [] (by decide +kernel) rfl trivial ?_
      refine go_call (Y2 := mX5_holds) (n2 := 27) (st := []) [.ref 0] [.int x] ck_6_46 cwX5_holds rfl (by decide +kernel) rfl (fun h => absurd h (by decide)) (fun _ => ⟨0, rfl, by decide, rfl⟩) (Nat.le_of_ble_eq_true rfl) (Or.inl rfl) (fun _ _ _ h => h) (by rw [hx]; exact q_holds l G (show Std A3 dm ncl cnt from hEA3.std hB (by omega)) hm ht) (fun v M2 hp11 => ?_)
      obtain ⟨rfl, rfl⟩ := hp11
      show Go l ro0 mX6_halves 27 (A3, G, PF) 124 [.ref 0, .int (nI mm), .int (wI (Wd B dm ncl) 32), .int (nI k), .int f, .int x, .int 1, .int (ptw B dm ncl m), .int 2] [.int (hv A3 dm ncl m)] 27 _
      refine go_blk (pc2 := 126) (L2 := [.ref 0, .int (nI mm), .int (wI (Wd B dm ncl) 32), .int (nI k), .int f, .int x, .int 1, .int (ptw B dm ncl m), .int 2]) (st2 := [.int 2, .int (hv A3 dm ncl m)]) (M2 := (A3, G, PF)) (hs2 := []) (C := True) [(.iload 8, 0, 0)] [] (by decide +kernel) rfl trivial ?_
      refine go_cmp (cnd := .ne) (off := 12) 138 (by decide +kernel) (by decide) (fun (h : ¬ (hv A3 dm ncl m) = 2) => absurd h (fun zz => zz (by rw [pt_hv0 hEA3]; first | rw [if_pos (by assumption)] | rw [if_neg (by assumption), if_pos (by assumption)] | rw [if_neg (by assumption), if_neg (by assumption)]))) (fun _ => ?_)
      refine go_blk (pc2 := 131) (L2 := [.ref 0, .int (nI mm), .int (wI (Wd B dm ncl) 32), .int (nI k), .int f, .int x, .int 1, .int (ptw B dm ncl m), .int 2]) (st2 := [.int (nI mm), .ref 0]) (M2 := (A3, G, PF)) (hs2 := []) (C := True) [(.aload_n 0, 0, 0), (.iload_n 1, 0, 0)] [] (by decide +kernel) rfl trivial ?_
      refine go_call (Y2 := mX6_set) (n2 := 27) (st := []) [] [.ref 0, .int (nI mm)] ck_6_42 cwX6_set rfl (by decide +kernel) rfl (fun _ => rfl) (fun h => absurd rfl h) (Nat.le_of_ble_eq_true rfl) (Or.inl rfl) (fun _ _ _ h => h) (s_X6_set l A3 G mm P dm ncl cnt hM (hEA3.std hB (by omega))) (fun v M2 hp12 => ?_)
      obtain ⟨rfl, rfl⟩ := hp12
      rw [wd_0 hEA3]
      show Go l ro0 mX6_halves 27 (A3, G, PF) 134 [.ref 0, .int (nI mm), .int (wI (Wd B dm ncl) 32), .int (nI k), .int f, .int x, .int 1, .int (ptw B dm ncl m), .int 2] [.int (wI (Wd B dm ncl) 32)] 27 _
      refine go_blk (pc2 := 135) (L2 := [.ref 0, .int (nI mm), .int (wI (Wd B dm ncl) 32), .int (nI k), .int f, .int x, .int 1, .int (ptw B dm ncl m), .int 2]) (st2 := [.int (wI (Wd B dm ncl) 32), .int (wI (Wd B dm ncl) 32)]) (M2 := (A3, G, PF)) (hs2 := []) (C := True) [(.iload_n 2, 0, 0)] [] (by decide +kernel) rfl trivial ?_
      refine go_cmp (cnd := .eq) (off := 5) 140 (by decide +kernel) (by decide) (fun _ => ?_) (fun (h : ¬ (wI (Wd B dm ncl) 32) = (wI (Wd B dm ncl) 32)) => absurd h (fun zz => zz rfl))
      refine go_blk (pc2 := 150) (L2 := [.ref 0, .int (nI mm), .int (wI (Wd B dm ncl) 32), .int (nI k), .int (f ||| (ptw B dm ncl m)), .int (x + 1), .int 1, .int (ptw B dm ncl m), .int 2]) (st2 := []) (M2 := (A3, G, PF)) (hs2 := []) (C := True) [(.iload 4, 0, 0), (.iload 7, 0, 0), (.ior, 0, 0), (.istore 4, 0, 0), (.iinc 5 1, 0, 0)] [] (by decide +kernel) rfl trivial ?_
      refine go_goto (off := -135) 15 (by decide +kernel) (by decide) ?_
      exact hout A3 hEA3 _ _ _
  · skip
    refine go_blk (pc2 := 76) (L2 := [.ref 0, .int (nI mm), .int (wI (Wd B dm ncl) 32), .int (nI k), .int f, .int x, .int 1, .int (ptw B dm ncl m), j8]) (st2 := [.int 0, .int (hv A2 dm (ncl + 1) m)]) (M2 := (A2, G, PF)) (hs2 := []) (C := True) [(.iconst 0, 0, 0)] [] (by decide +kernel) rfl trivial ?_
    refine go_goto (off := 4) 80 (by decide +kernel) (by decide) ?_
    refine go_cmp (cnd := .ne) (off := 14) 94 (by decide +kernel) (by decide) (fun (h : ¬ (hv A2 dm (ncl + 1) m) = 0) => absurd h (fun zz => zz (by rw [pt_hv hEA2 hm]; first | rw [if_pos (by assumption)] | rw [if_neg (by assumption)]))) (fun _ => ?_)
    refine go_blk (pc2 := 84) (L2 := [.ref 0, .int (nI mm), .int (wI (Wd B dm ncl) 32), .int (nI k), .int f, .int x, .int 1, .int (ptw B dm ncl m), j8]) (st2 := [.ref 0]) (M2 := (A2, G, PF)) (hs2 := []) (C := True) [(.aload_n 0, 0, 0)] [] (by decide +kernel) rfl trivial ?_
    refine go_call (Y2 := mX5_pop) (n2 := 27) (st := []) [.ref 0] [] ck_6_49 cwX5_pop rfl (by decide +kernel) rfl (fun h => absurd h (by decide)) (fun _ => ⟨0, rfl, by decide, rfl⟩) (Nat.le_of_ble_eq_true rfl) (Or.inl rfl) (fun _ _ _ h => h) (q_pop l G hEA2 (fun _ => 0)) (fun v M2 hp13 => ?_)
    obtain ⟨rfl, A3, rfl, hEA3⟩ := hp13
    show Go l ro0 mX6_halves 27 (A3, G, PF) 87 [.ref 0, .int (nI mm), .int (wI (Wd B dm ncl) 32), .int (nI k), .int f, .int x, .int 1, .int (ptw B dm ncl m), j8] [.int 0] 27 _
    refine go_blk (pc2 := 91) (L2 := [.ref 0, .int (nI mm), .int (wI (Wd B dm ncl) 32), .int (nI k), .int f, .int x, .int 1, .int (ptw B dm ncl m), j8]) (st2 := [.int (1 - 1), .int 0]) (M2 := (A3, G, PF)) (hs2 := []) (C := True) [(.iload 6, 0, 0), (.iconst 1, 0, 0), (.isub, 0, 0)] [] (by decide +kernel) rfl trivial ?_
    refine go_cmp (cnd := .eq) (off := 5) 96 (by decide +kernel) (by decide) (fun _ => ?_) (fun (h : ¬ (0 : Int32) = (1 - 1)) => absurd h (fun zz => zz (by decide)))
    refine go_blk (pc2 := 98) (L2 := [.ref 0, .int (nI mm), .int (wI (Wd B dm ncl) 32), .int (nI k), .int f, .int x, .int 1, .int (ptw B dm ncl m), j8]) (st2 := [.int (ptw B dm ncl m)]) (M2 := (A3, G, PF)) (hs2 := []) (C := True) [(.iload 7, 0, 0)] [] (by decide +kernel) rfl trivial ?_
    refine go_ifz (cnd := .ne) (off := 7) 105 (by decide +kernel) (by decide) (fun (h : ¬ (ptw B dm ncl m) = 0) => absurd h (fun zz => zz (by assumption))) (fun _ => ?_)
    refine go_blk (pc2 := 102) (L2 := [.ref 0, .int (nI mm), .int (wI (Wd B dm ncl) 32), .int (nI k), .int f, .int x, .int 1, .int (ptw B dm ncl m), j8]) (st2 := [.int 0]) (M2 := (A3, G, PF)) (hs2 := []) (C := True) [(.iconst 0, 0, 0)] [] (by decide +kernel) rfl trivial ?_
    refine go_goto (off := 14) 116 (by decide +kernel) (by decide) ?_
    refine go_blk (pc2 := 121) (L2 := [.ref 0, .int (nI mm), .int (wI (Wd B dm ncl) 32), .int (nI k), .int f, .int x, .int 1, .int (ptw B dm ncl m), .int 0]) (st2 := [.int x, .ref 0]) (M2 := (A3, G, PF)) (hs2 := []) (C := True) [(.istore 8, 0, 0), (.aload_n 0, 0, 0), (.iload 5, 0, 0)] [] (by decide +kernel) rfl trivial ?_
    refine go_call (Y2 := mX5_holds) (n2 := 27) (st := []) [.ref 0] [.int x] ck_6_46 cwX5_holds rfl (by decide +kernel) rfl (fun h => absurd h (by decide)) (fun _ => ⟨0, rfl, by decide, rfl⟩) (Nat.le_of_ble_eq_true rfl) (Or.inl rfl) (fun _ _ _ h => h) (by rw [hx]; exact q_holds l G (show Std A3 dm ncl cnt from hEA3.std hB (by omega)) hm ht) (fun v M2 hp14 => ?_)
    obtain ⟨rfl, rfl⟩ := hp14
    show Go l ro0 mX6_halves 27 (A3, G, PF) 124 [.ref 0, .int (nI mm), .int (wI (Wd B dm ncl) 32), .int (nI k), .int f, .int x, .int 1, .int (ptw B dm ncl m), .int 0] [.int (hv A3 dm ncl m)] 27 _
    refine go_blk (pc2 := 126) (L2 := [.ref 0, .int (nI mm), .int (wI (Wd B dm ncl) 32), .int (nI k), .int f, .int x, .int 1, .int (ptw B dm ncl m), .int 0]) (st2 := [.int 0, .int (hv A3 dm ncl m)]) (M2 := (A3, G, PF)) (hs2 := []) (C := True) [(.iload 8, 0, 0)] [] (by decide +kernel) rfl trivial ?_
    refine go_cmp (cnd := .ne) (off := 12) 138 (by decide +kernel) (by decide) (fun (h : ¬ (hv A3 dm ncl m) = 0) => absurd h (fun zz => zz (by rw [pt_hv0 hEA3]; first | rw [if_pos (by assumption)] | rw [if_neg (by assumption), if_pos (by assumption)] | rw [if_neg (by assumption), if_neg (by assumption)]))) (fun _ => ?_)
    refine go_blk (pc2 := 131) (L2 := [.ref 0, .int (nI mm), .int (wI (Wd B dm ncl) 32), .int (nI k), .int f, .int x, .int 1, .int (ptw B dm ncl m), .int 0]) (st2 := [.int (nI mm), .ref 0]) (M2 := (A3, G, PF)) (hs2 := []) (C := True) [(.aload_n 0, 0, 0), (.iload_n 1, 0, 0)] [] (by decide +kernel) rfl trivial ?_
    refine go_call (Y2 := mX6_set) (n2 := 27) (st := []) [] [.ref 0, .int (nI mm)] ck_6_42 cwX6_set rfl (by decide +kernel) rfl (fun _ => rfl) (fun h => absurd rfl h) (Nat.le_of_ble_eq_true rfl) (Or.inl rfl) (fun _ _ _ h => h) (s_X6_set l A3 G mm P dm ncl cnt hM (hEA3.std hB (by omega))) (fun v M2 hp15 => ?_)
    obtain ⟨rfl, rfl⟩ := hp15
    rw [wd_0 hEA3]
    show Go l ro0 mX6_halves 27 (A3, G, PF) 134 [.ref 0, .int (nI mm), .int (wI (Wd B dm ncl) 32), .int (nI k), .int f, .int x, .int 1, .int (ptw B dm ncl m), .int 0] [.int (wI (Wd B dm ncl) 32)] 27 _
    refine go_blk (pc2 := 135) (L2 := [.ref 0, .int (nI mm), .int (wI (Wd B dm ncl) 32), .int (nI k), .int f, .int x, .int 1, .int (ptw B dm ncl m), .int 0]) (st2 := [.int (wI (Wd B dm ncl) 32), .int (wI (Wd B dm ncl) 32)]) (M2 := (A3, G, PF)) (hs2 := []) (C := True) [(.iload_n 2, 0, 0)] [] (by decide +kernel) rfl trivial ?_
    refine go_cmp (cnd := .eq) (off := 5) 140 (by decide +kernel) (by decide) (fun _ => ?_) (fun (h : ¬ (wI (Wd B dm ncl) 32) = (wI (Wd B dm ncl) 32)) => absurd h (fun zz => zz rfl))
    refine go_blk (pc2 := 150) (L2 := [.ref 0, .int (nI mm), .int (wI (Wd B dm ncl) 32), .int (nI k), .int (f ||| (ptw B dm ncl m)), .int (x + 1), .int 1, .int (ptw B dm ncl m), .int 0]) (st2 := []) (M2 := (A3, G, PF)) (hs2 := []) (C := True) [(.iload 4, 0, 0), (.iload 7, 0, 0), (.ior, 0, 0), (.istore 4, 0, 0), (.iinc 5 1, 0, 0)] [] (by decide +kernel) rfl trivial ?_
    refine go_goto (off := -135) 15 (by decide +kernel) (by decide) ?_
    exact hout A3 hEA3 _ _ _
theorem n2k (k : Nat) : (2 * nI k : Int32) = nI (2 * k) := by
  show Int32.ofNat 2 * Int32.ofNat k = Int32.ofNat (2 * k)
  rw [Int32.ofNat_mul]
theorem n2k1 (k : Nat) : (2 * nI k : Int32) + 1 = nI (2 * k + 1) := by rw [n2k, nI_1]
set_option maxRecDepth 100000 in
set_option maxHeartbeats 4000000 in
theorem lp_X6_halves (l : Launch) (B : Nat → Nat → Int32) (G : Nat → Nat → Int64) (mm P dm ncl cnt : Nat) (hM : Mm mm P dm) (hB : Std B dm ncl cnt) (h3 : ncl ≤ 3) (hmm : mm ≤ 5) : ∀ k, k ≤ mm → ∀ A, Ext B A ncl (fun _ => 0) 0 0 → ∀ j4 j5 j6 j7 j8 : Value, Go l ro0 mX6_halves 27 (A, G, PF) 2 [.ref 0, .int (nI mm), .int (wI (Wd B dm ncl) 32), .int (nI k), j4, j5, j6, j7, j8] [] 27 (fun r M2 => r = some (.int 1) ∧ ∃ A2, M2 = (A2, G, PF) ∧ Ext B A2 ncl (fun _ => 0) 0 0) := by
  refine down mm (fun k hk ih A hE j4 j5 j6 j7 j8 => ?_)
  refine go_blk (pc2 := 4) (L2 := [.ref 0, .int (nI mm), .int (wI (Wd B dm ncl) 32), .int (nI k), j4, j5, j6, j7, j8]) (st2 := [.int (nI mm), .int (nI k)]) (M2 := (A, G, PF)) (hs2 := []) (C := True) [(.iload_n 3, 0, 0), (.iload_n 1, 0, 0)] [] (by decide +kernel) rfl trivial ?_
  refine go_cmp (cnd := .ge) (off := 163) 167 (by decide +kernel) (by decide) (fun (c1 : (nI mm) ≤ (nI k)) => ?_) (fun (c1 : ¬ (nI mm) ≤ (nI k)) => ?_)
  · skip
    replace c1 : mm ≤ k := (nx_le (a := mm) (b := k) rfl rfl (by omega) (by omega)).mp c1
    refine go_blk (pc2 := 168) (L2 := [.ref 0, .int (nI mm), .int (wI (Wd B dm ncl) 32), .int (nI k), j4, j5, j6, j7, j8]) (st2 := [.int 1]) (M2 := (A, G, PF)) (hs2 := []) (C := True) [(.iconst 1, 0, 0)] [] (by decide +kernel) rfl trivial ?_
    exact go_retz (by decide +kernel) rfl (Or.inr rfl) (⟨rfl, A, rfl, hE⟩)
  · skip
    replace c1 : ¬ mm ≤ k := fun zz => c1 ((nx_le (a := mm) (b := k) rfl rfl (by omega) (by omega)).mpr zz)
    refine go_blk (pc2 := 15) (L2 := [.ref 0, .int (nI mm), .int (wI (Wd B dm ncl) 32), .int (nI k), .int 0, .int (2 * (nI k)), j6, j7, j8]) (st2 := []) (M2 := (A, G, PF)) (hs2 := []) (C := True) [(.iconst 0, 0, 0), (.istore 4, 0, 0), (.iconst 2, 0, 0), (.iload_n 3, 0, 0), (.imul, 0, 0), (.istore 5, 0, 0)] [] (by decide +kernel) rfl trivial ?_
    refine go_blk (pc2 := 22) (L2 := [.ref 0, .int (nI mm), .int (wI (Wd B dm ncl) 32), .int (nI k), .int 0, .int (2 * (nI k)), j6, j7, j8]) (st2 := [.int ((2 * (nI k)) + 2), .int (2 * (nI k))]) (M2 := (A, G, PF)) (hs2 := []) (C := True) [(.iload 5, 0, 0), (.iconst 2, 0, 0), (.iload_n 3, 0, 0), (.imul, 0, 0), (.iconst 2, 0, 0), (.iadd, 0, 0)] [] (by decide +kernel) rfl trivial ?_
    refine go_cmp (cnd := .ge) (off := 131) 153 (by decide +kernel) (by decide) (fun (h : ((2 * (nI k)) + 2) ≤ (2 * (nI k))) => absurd h (fun zz => absurd ((nx_le (a := ((2 * k) + 2)) (b := (2 * k)) (by first | rfl | (simp only [nI, Int32.ofNat_add, Int32.ofNat_mul]; done) | (simp only [nI, Int32.ofNat_add, Int32.ofNat_mul]; rfl)) (by first | rfl | (simp only [nI, Int32.ofNat_add, Int32.ofNat_mul]; done) | (simp only [nI, Int32.ofNat_add, Int32.ofNat_mul]; rfl)) (by omega) (by omega)).mp zz) (by omega))) (fun _ => ?_)
    refine lb_X6_halves l B A G mm P dm ncl cnt hM hB h3 k (2 * k) _ (by first | exact n2k k | exact n2k1 k) (by have := hM.le; omega) (hM.tb (2 * k) (by have := hM.le; omega) (by omega)) _ _ _ _ hE (fun B1 hE1 i6 i7 i8 => ?_)
    refine go_blk (pc2 := 22) (L2 := [.ref 0, .int (nI mm), .int (wI (Wd B dm ncl) 32), .int (nI k), .int (0 ||| (ptw B dm ncl (2 * k))), .int ((2 * (nI k)) + 1), i6, i7, i8]) (st2 := [.int ((2 * (nI k)) + 2), .int ((2 * (nI k)) + 1)]) (M2 := (B1, G, PF)) (hs2 := []) (C := True) [(.iload 5, 0, 0), (.iconst 2, 0, 0), (.iload_n 3, 0, 0), (.imul, 0, 0), (.iconst 2, 0, 0), (.iadd, 0, 0)] [] (by decide +kernel) rfl trivial ?_
    refine go_cmp (cnd := .ge) (off := 131) 153 (by decide +kernel) (by decide) (fun (h : ((2 * (nI k)) + 2) ≤ ((2 * (nI k)) + 1)) => absurd h (fun zz => absurd ((nx_le (a := ((2 * k) + 2)) (b := ((2 * k) + 1)) (by first | rfl | (simp only [nI, Int32.ofNat_add, Int32.ofNat_mul]; done) | (simp only [nI, Int32.ofNat_add, Int32.ofNat_mul]; rfl)) (by first | rfl | (simp only [nI, Int32.ofNat_add, Int32.ofNat_mul]; done) | (simp only [nI, Int32.ofNat_add, Int32.ofNat_mul]; rfl)) (by omega) (by omega)).mp zz) (by omega))) (fun _ => ?_)
    refine lb_X6_halves l B B1 G mm P dm ncl cnt hM hB h3 k (2 * k + 1) _ (by first | exact n2k k | exact n2k1 k) (by have := hM.le; omega) (hM.tb (2 * k + 1) (by have := hM.le; omega) (by omega)) _ _ _ _ hE1 (fun B2 hE2 i6 i7 i8 => ?_)
    refine go_blk (pc2 := 22) (L2 := [.ref 0, .int (nI mm), .int (wI (Wd B dm ncl) 32), .int (nI k), .int ((0 ||| (ptw B dm ncl (2 * k))) ||| (ptw B dm ncl (2 * k + 1))), .int (((2 * (nI k)) + 1) + 1), i6, i7, i8]) (st2 := [.int ((2 * (nI k)) + 2), .int (((2 * (nI k)) + 1) + 1)]) (M2 := (B2, G, PF)) (hs2 := []) (C := True) [(.iload 5, 0, 0), (.iconst 2, 0, 0), (.iload_n 3, 0, 0), (.imul, 0, 0), (.iconst 2, 0, 0), (.iadd, 0, 0)] [] (by decide +kernel) rfl trivial ?_
    refine go_cmp (cnd := .ge) (off := 131) 153 (by decide +kernel) (by decide) (fun _ => ?_) (fun (h : ¬ ((2 * (nI k)) + 2) ≤ (((2 * (nI k)) + 1) + 1)) => absurd h (fun zz => zz ((nx_le (a := ((2 * k) + 2)) (b := (((2 * k) + 1) + 1)) (by first | rfl | (simp only [nI, Int32.ofNat_add, Int32.ofNat_mul]; done) | (simp only [nI, Int32.ofNat_add, Int32.ofNat_mul]; rfl)) (by first | rfl | (simp only [nI, Int32.ofNat_add, Int32.ofNat_mul]; done) | (simp only [nI, Int32.ofNat_add, Int32.ofNat_mul]; rfl)) (by omega) (by omega)).mpr (by omega))))
    refine go_blk (pc2 := 156) (L2 := [.ref 0, .int (nI mm), .int (wI (Wd B dm ncl) 32), .int (nI k), .int ((0 ||| (ptw B dm ncl (2 * k))) ||| (ptw B dm ncl (2 * k + 1))), .int (((2 * (nI k)) + 1) + 1), i6, i7, i8]) (st2 := [.int (wI (Wd B dm ncl) 32), .int ((0 ||| (ptw B dm ncl (2 * k))) ||| (ptw B dm ncl (2 * k + 1)))]) (M2 := (B2, G, PF)) (hs2 := []) (C := True) [(.iload 4, 0, 0), (.iload_n 2, 0, 0)] [] (by decide +kernel) rfl trivial ?_
    refine go_cmp (cnd := .eq) (off := 5) 161 (by decide +kernel) (by decide) (fun _ => ?_) (fun (h : ¬ ((0 ||| (ptw B dm ncl (2 * k))) ||| (ptw B dm ncl (2 * k + 1))) = (wI (Wd B dm ncl) 32)) => absurd h (fun zz => zz (pt_or B dm ncl k)))
    refine go_blk (pc2 := 164) (L2 := [.ref 0, .int (nI mm), .int (wI (Wd B dm ncl) 32), .int ((nI k) + 1), .int ((0 ||| (ptw B dm ncl (2 * k))) ||| (ptw B dm ncl (2 * k + 1))), .int (((2 * (nI k)) + 1) + 1), i6, i7, i8]) (st2 := []) (M2 := (B2, G, PF)) (hs2 := []) (C := True) [(.iinc 3 1, 0, 0)] [] (by decide +kernel) rfl trivial ?_
    refine go_goto (off := -162) 2 (by decide +kernel) (by decide) ?_
    exact go_as (ih (by omega) B2 hE2 (.int ((0 ||| (ptw B dm ncl (2 * k))) ||| (ptw B dm ncl (2 * k + 1)))) (.int (((2 * (nI k)) + 1) + 1)) (i6) (i7) (i8)) rfl (by simp only [nI_1]) rfl
set_option maxRecDepth 100000 in
set_option maxHeartbeats 4000000 in
theorem s_X6_halves (l : Launch) (B A : Nat → Nat → Int32) (G : Nat → Nat → Int64) (mm P dm ncl cnt : Nat) (hM : Mm mm P dm) (hB : Std B dm ncl cnt) (h3 : ncl ≤ 3) (hE : Ext B A ncl (fun _ => 0) 0 0) : Sem l mX6_halves [.ref 0, .int (nI mm), .int (wI (Wd B dm ncl) 32)] 27 (A, G, PF) 27 (fun r M2 => r = some (.int 1) ∧ ∃ A2, M2 = (A2, G, PF) ∧ Ext B A2 ncl (fun _ => 0) 0 0) := by
  refine sem_of_go (by decide) rfl (by decide) (by decide) rfl (Nat.le_of_ble_eq_true rfl) ?_
  show Go l ro0 mX6_halves 27 (A, G, PF) 0 [.ref 0, .int (nI mm), .int (wI (Wd B dm ncl) 32), .null, .null, .null, .null, .null, .null] [] 27 (fun r M2 => r = some (.int 1) ∧ ∃ A2, M2 = (A2, G, PF) ∧ Ext B A2 ncl (fun _ => 0) 0 0)
  refine go_blk (pc2 := 2) (L2 := [.ref 0, .int (nI mm), .int (wI (Wd B dm ncl) 32), .int 0, .null, .null, .null, .null, .null]) (st2 := []) (M2 := (A, G, PF)) (hs2 := []) (C := True) [(.iconst 0, 0, 0), (.istore_n 3, 0, 0)] [] (by decide +kernel) rfl trivial ?_
  exact lp_X6_halves l B G mm P dm ncl cnt hM hB h3 hM.le.2.2.2.1 0 (by omega) A hE _ _ _ _ _
end
section
/-! ===== defining the atoms, adding the clauses, reading them off ===== -/
def Ati (A : Nat → Nat → Int32) (dm : Nat) : Prop := FOk A ∧ LitOk A ∧ A 1 7 = nI dm ∧ A 9 2 = 0 ∧ A 9 3 = 0 ∧ (∀ k, k < 5 → Nrm (row3 A k)) ∧ Fixp A ∧ ¬ A 0 5 = 0
theorem dm_or : ∀ dm, dm < 32 → ∀ kk, kk < 5 → nI dm ||| (1 <<< (nI kk &&& 31)) = nI (dm ||| 2 ^ kk) ∧ dm ||| 2 ^ kk < 32 := by decide +kernel
theorem dm_up : ∀ k, k < 5 → (2 ^ k - 1) ||| 2 ^ k = 2 ^ (k + 1) - 1 ∧ 2 ^ k - 1 < 32 := by decide +kernel
theorem nI_cl3 : ∀ i : Nat, i < 3 → (nI i).toNatClampNeg = i := by decide +kernel
theorem Ati.def {A B : Nat → Nat → Int32} {dm kk : Nat} (h : Ati A dm) (hd : dm < 32) (hkk : kk < 5)
    (hrow : ∀ o, o = 9 ∨ o = 10 → B o = A o) (hpl : ∀ p, RC B p = RC A p)
    (hne : ∀ k, k ≠ kk → B 2 k = A 2 k ∧ row3 B k = row3 A k ∧ B 7 k = A 7 k ∧ B 8 k = A 8 k)
    (h17 : B 1 7 = A 1 7 ||| (1 <<< (nI kk &&& 31))) (hn : Nrm (row3 B kk)) (hf : B 2 kk = 3 → ∃ i j, i < 3 ∧ j < 3 ∧ B 7 kk = nI i ∧ B 8 kk = nI j) (hs : ¬ B 0 5 = 0) : Ati B (dm ||| 2 ^ kk) := by
  obtain ⟨f1, f2, f3, f4, f5, f6, f7, f8⟩ := h
  refine ⟨fun k hk q3 => ?_, ?_, by rw [h17, f3, (dm_or dm hd kk hkk).1], by rw [hrow 9 (Or.inl rfl)]; exact f4, by rw [hrow 9 (Or.inl rfl)]; exact f5, fun k hk => ?_, fun p q1 q2 => by rw [hpl]; exact f7 p q1 q2, hs⟩
  · by_cases e : k = kk
    · subst e
      obtain ⟨i, j, z1, z2, z3, z4⟩ := hf q3
      unfold fi fj
      rw [z3, z4, nI_cl3 i z1, nI_cl3 j z2]
      exact ⟨⟨z1, rfl⟩, z2, rfl⟩
    · obtain ⟨a1, -, a5, a6⟩ := hne k e
      unfold fi fj
      rw [a5, a6]
      exact f1 k hk (a1.symm.trans q3)
  · simpa only [LitOk, lit, hrow 10 (Or.inr rfl)] using f2
  · by_cases e : k = kk
    · subst e
      exact hn
    · rw [(hne k e).2.1]
      exact f6 k hk
theorem Ati.lin {A : Nat → Nat → Int32} {dm kk : Nat} (h : Ati A dm) (hd : dm < 32) (hkk : kk < 5) {a b c d : Int32} (e : Int32) (hf : f9 a ∧ f9 b ∧ f9 c) : Ati (u2 (dlin A kk a b c d e) 0 5 1) (dm ||| 2 ^ kk) := by
  refine h.def hd hkk (fun o ho => ?_) (fun p => ?_) (fun k hk => ?_) ?_ ?_ (fun z => ?_) ?_
  · unfold dlin
    rcases ho with rfl | rfl <;> simp [u2_row]
  · unfold RC dlin
    simp [u2_row]
  · unfold row3 dlin
    simp [u2, hk]
  · unfold dlin
    simp [u2]
  · unfold row3 dlin
    have e3 : Nrm (a, b, c, d) := hf
    simpa [u2] using e3
  · exfalso
    revert z
    unfold dlin
    simp only [u2]
    by_cases q : e = 0 <;> simp [q]
  · simp [u2]
theorem Ati.fac {A : Nat → Nat → Int32} {dm kk i j : Nat} (h : Ati A dm) (hd : dm < 32) (hkk : kk < 5) (hi : i < 3) (hj : j < 3) : Ati (u2 (dfac A kk (nI i) (nI j)) 0 5 1) (dm ||| 2 ^ kk) := by
  refine h.def hd hkk (fun o ho => ?_) (fun p => ?_) (fun k hk => ?_) ?_ ?_ (fun z => ⟨i, j, hi, hj, ?_, ?_⟩) ?_
  · unfold dfac
    rcases ho with rfl | rfl <;> simp [u2_row]
  · unfold RC dfac
    simp [u2_row]
  · unfold row3 dfac
    simp [u2, hk]
  · unfold dfac
    simp [u2]
  · unfold row3 dfac
    have e3 : Nrm ((0 : Int32), (0 : Int32), (0 : Int32), (0 : Int32)) := ⟨⟨by decide, by decide⟩, ⟨by decide, by decide⟩, ⟨by decide, by decide⟩⟩
    simpa [u2] using e3
  · unfold dfac
    simp [u2]
  · unfold dfac
    simp [u2]
  · simp [u2]
theorem andk (x : Int32) (n : Nat) (hn : n < 2 ^ 31) : ∃ j, j ≤ n ∧ x &&& nI n = nI j := by
  refine ⟨(x &&& nI n).toBitVec.toNat, ?_, ?_⟩
  · have h1 : (x &&& nI n).toBitVec.toNat = x.toBitVec.toNat &&& (nI n).toBitVec.toNat := by simp
    rw [h1, pk_tn (by omega)]
    exact Nat.and_le_right
  · apply Int32.toBitVec_inj.mp
    apply BitVec.eq_of_toNat_eq
    have h1 : (x &&& nI n).toBitVec.toNat < 2 ^ 32 := (x &&& nI n).toBitVec.isLt
    have h2 : (x &&& nI n).toBitVec.toNat ≤ n := by
      have h1 : (x &&& nI n).toBitVec.toNat = x.toBitVec.toNat &&& (nI n).toBitVec.toNat := by simp
      rw [h1, pk_tn (by omega)]
      exact Nat.and_le_right
    rw [pk_tn (by omega)]
theorem and3 (x : Int32) : ∃ j, j < 4 ∧ x &&& 3 = nI j := by
  obtain ⟨j, h1, h2⟩ := andk x 3 (by decide)
  exact ⟨j, by omega, h2⟩
theorem rem3 (x : Int32) : ∃ j, j < 3 ∧ (x &&& 3) - (x &&& 3) / 3 * 3 = nI j := by
  obtain ⟨j, h1, h2⟩ := and3 x
  rw [h2]
  have h : ∀ j, j < 4 → nI j - nI j / 3 * 3 = nI (j % 3) := by decide +kernel
  exact ⟨j % 3, by omega, h j h1⟩
theorem f99_63 (x : Int32) : f99 ((x &&& 63) - 31) := by
  obtain ⟨j, h1, h2⟩ := andk x 63 (by decide)
  rw [show x &&& 63 = nI j from h2]
  have h : ∀ j, j < 64 → (-99 ≤ nI j - 31 ∧ nI j - 31 ≤ 99) := by decide +kernel
  exact h j (by omega)
theorem n2p (j : Nat) : (2 : Int32) + nI j = nI (2 + j) := by
  show Int32.ofNat 2 + Int32.ofNat j = Int32.ofNat (2 + j)
  rw [Int32.ofNat_add]
theorem n1p (j : Nat) : (1 : Int32) + nI j = nI (1 + j) := by
  show Int32.ofNat 1 + Int32.ofNat j = Int32.ofNat (1 + j)
  rw [Int32.ofNat_add]
theorem n6p (j : Nat) : (6 : Int32) + nI j = nI (6 + j) := by
  show Int32.ofNat 6 + Int32.ofNat j = Int32.ofNat (6 + j)
  rw [Int32.ofNat_add]
theorem Mm.of : ∀ j, j < 4 → Mm (2 + j) (2 ^ (2 + j)) (2 ^ (2 + j) - 1) := by
  intro j hj
  unfold Mm
  rcases (show j = 0 ∨ j = 1 ∨ j = 2 ∨ j = 3 by omega) with rfl | rfl | rfl | rfl
  · exact Or.inl ⟨rfl, rfl, rfl⟩
  · exact Or.inr (Or.inl ⟨rfl, rfl, rfl⟩)
  · exact Or.inr (Or.inr (Or.inl ⟨rfl, rfl, rfl⟩))
  · exact Or.inr (Or.inr (Or.inr ⟨rfl, rfl, rfl⟩))
theorem kI5 : ∀ k, k < 5 → (0 : Int32) ≤ nI k ∧ nI k < 5 := by decide +kernel
theorem kI3 : ∀ k, k < 3 → (0 : Int32) ≤ nI k ∧ nI k < 3 := by decide +kernel
theorem q_lin (l : Launch) (A : Nat → Nat → Int32) (G : Nat → Nat → Int64) {kk : Nat} (hkk : kk < 5) {a b c d : Int32} (e : Int32) (hf : f9 a ∧ f9 b ∧ f9 c) (hd : f99 d) {x : Int32} (hx : x = nI kk) : Sem l mX5_linear [.ref 0, .int x, .int a, .int b, .int c, .int d, .int e] 27 (A, G, PF) 27 (pv 1 (u2 (dlin A kk a b c d e) 0 5 1, G, PF)) := by
  subst hx
  refine (s_X5_linear l A G (nI kk) a b c d e).mono ?_
  rintro v M (⟨-, k2, h1, h2, rfl, rfl⟩ | ⟨z, -⟩)
  · obtain rfl : k2 = kk := nI_inj (by omega) (by omega) h2.symm
    exact ⟨rfl, rfl⟩
  · exact absurd ⟨kI5 kk hkk, hf, hd⟩ z
theorem q_fac (l : Launch) (A : Nat → Nat → Int32) (G : Nat → Nat → Int64) {kk i j : Nat} (hkk : kk < 5) (hi : i < 3) (hj : j < 3) {x y z : Int32} (hx : x = nI kk) (hy : y = nI i) (hz : z = nI j) : Sem l mX5_fact [.ref 0, .int x, .int y, .int z] 27 (A, G, PF) 27 (pv 1 (u2 (dfac A kk (nI i) (nI j)) 0 5 1, G, PF)) := by
  subst hx; subst hy; subst hz
  refine (s_X5_fact l A G (nI kk) (nI i) (nI j)).mono ?_
  rintro v M (⟨-, k2, h1, h2, rfl, rfl⟩ | ⟨z, -⟩)
  · obtain rfl : k2 = kk := nI_inj (by omega) (by omega) h2.symm
    exact ⟨rfl, rfl⟩
  · exact absurd ⟨kI5 kk hkk, kI3 i hi, kI3 j hj⟩ z
set_option maxRecDepth 100000 in
set_option maxHeartbeats 4000000 in
theorem lp_X6_atoms (l : Launch) (N : Nat) (hN : N < 2 ^ 31) (xs : Nat → Int32) (G : Nat → Nat → Int64) (n : Nat) (hn : n < 4) (y : Int32) (hy : y = nI (2 + n)) : ∀ k, k ≤ 2 + n → ∀ A, Ati A (2 ^ k - 1) → ∀ g : Int32, g = 1 → ∀ j5 : Value, Go l (ro1 N xs) mX6_atoms 27 (A, G, PF) 22 [.ref 0, .ref 103, .int y, .int g, .int (nI k), j5] [] 27 (fun r M2 => ∃ mm P dm A2, Mm mm P dm ∧ r = some (.int (nI mm)) ∧ M2 = (A2, G, PF) ∧ Ati A2 dm) := by
  refine down (2 + n) (fun k hk ih A hA g hg j5 => ?_)
  refine go_blk (pc2 := 25) (L2 := [.ref 0, .ref 103, .int y, .int g, .int (nI k), j5]) (st2 := [.int y, .int (nI k)]) (M2 := (A, G, PF)) (hs2 := []) (C := True) [(.iload 4, 0, 0), (.iload_n 2, 0, 0)] [] (by decide +kernel) rfl trivial ?_
  refine go_cmp (cnd := .ge) (off := 112) 137 (by decide +kernel) (by decide) (fun (c1 : y ≤ (nI k)) => ?_) (fun (c1 : ¬ y ≤ (nI k)) => ?_)
  · skip
    replace c1 : (2 + n) ≤ k := (nx_le (a := (2 + n)) (b := k) hy rfl (by omega) (by omega)).mp c1
    refine go_blk (pc2 := 138) (L2 := [.ref 0, .ref 103, .int y, .int g, .int (nI k), j5]) (st2 := [.int g]) (M2 := (A, G, PF)) (hs2 := []) (C := True) [(.iload_n 3, 0, 0)] [] (by decide +kernel) rfl trivial ?_
    refine go_ifz (cnd := .eq) (off := 7) 145 (by decide +kernel) (by decide) (fun (h : g = 0) => absurd h (by rw [hg]; decide)) (fun _ => ?_)
    refine go_blk (pc2 := 142) (L2 := [.ref 0, .ref 103, .int y, .int g, .int (nI k), j5]) (st2 := [.int y]) (M2 := (A, G, PF)) (hs2 := []) (C := True) [(.iload_n 2, 0, 0)] [] (by decide +kernel) rfl trivial ?_
    refine go_goto (off := 4) 146 (by decide +kernel) (by decide) ?_
    exact go_reti (by decide +kernel) rfl (⟨2 + n, _, _, A, Mm.of n hn, by rw [hy], rfl, by rw [show 2 + n = k by omega]; exact hA⟩)
  · skip
    replace c1 : ¬ (2 + n) ≤ k := fun zz => c1 ((nx_le (a := (2 + n)) (b := k) hy rfl (by omega) (by omega)).mpr zz)
    refine go_blk (pc2 := 33) (L2 := [.ref 0, .ref 103, .int y, .int g, .int (nI k), j5]) (st2 := [.int (1 + (nI k)), .ref 103]) (M2 := (A, G, PF)) (hs2 := []) (C := True) [(.aload_n 1, 0, 0), (.iconst 1, 0, 0), (.iload 4, 0, 0), (.iadd, 0, 0)] [] (by decide +kernel) rfl trivial ?_
    refine go_call (Y2 := mX6_cell) (n2 := 27) (st := []) [] [.ref 103, .int (1 + (nI k))] ck_6_7 cwX6_cell rfl (by decide +kernel) rfl (fun _ => rfl) (fun h => absurd rfl h) (Nat.le_of_ble_eq_true rfl) (Or.inl rfl) (fun _ _ _ h => h) (s_X6_cell l N hN xs A G (1 + k) (by omega) (1 + (nI k)) (n1p k)) (fun v M2 hp2 => ?_)
    obtain ⟨rfl, rfl⟩ := hp2
    obtain ⟨i, hi, ei⟩ := rem3 (xc N xs (1 + k) >>> (2 &&& 31))
    obtain ⟨j, hj, ej⟩ := rem3 (xc N xs (1 + k) >>> (4 &&& 31))
    show Go l (ro1 N xs) mX6_atoms 27 (A, G, PF) 36 [.ref 0, .ref 103, .int y, .int g, .int (nI k), j5] [.int (xc N xs (1 + k))] 27 _
    refine go_blk (pc2 := 42) (L2 := [.ref 0, .ref 103, .int y, .int g, .int (nI k), .int (xc N xs (1 + k))]) (st2 := [.int ((xc N xs (1 + k)) &&& 3)]) (M2 := (A, G, PF)) (hs2 := []) (C := True) [(.istore 5, 0, 0), (.iload 5, 0, 0), (.iconst 3, 0, 0), (.iand, 0, 0)] [] (by decide +kernel) rfl trivial ?_
    refine go_ifz (cnd := .ne) (off := 31) 73 (by decide +kernel) (by decide) (fun (c3 : ¬ ((xc N xs (1 + k)) &&& 3) = 0) => ?_) (fun (c3 : ((xc N xs (1 + k)) &&& 3) = 0) => ?_)
    · skip
      refine go_blk (pc2 := 81) (L2 := [.ref 0, .ref 103, .int y, .int g, .int (nI k), .int (xc N xs (1 + k))]) (st2 := [.int ((xc N xs (1 + k)) >>> (3 &&& 31)), .int (nI k), .ref 0, .int g]) (M2 := (A, G, PF)) (hs2 := []) (C := True) [(.iload_n 3, 0, 0), (.aload_n 0, 0, 0), (.iload 4, 0, 0), (.iload 5, 0, 0), (.iconst 3, 0, 0), (.ishr, 0, 0)] [] (by decide +kernel) rfl trivial ?_
      refine go_call (Y2 := mX6_small) (n2 := 27) (st := [.int (nI k), .ref 0, .int g]) [] [.int ((xc N xs (1 + k)) >>> (3 &&& 31))] ck_6_19 cwX6_small rfl (by decide +kernel) rfl (fun _ => rfl) (fun h => absurd rfl h) (Nat.le_of_ble_eq_true rfl) (Or.inl rfl) (ro1_ro0 N xs) (s_X6_small l A G ((xc N xs (1 + k)) >>> (3 &&& 31))) (fun v M2 hp4 => ?_)
      obtain ⟨rfl, rfl⟩ := hp4
      show Go l (ro1 N xs) mX6_atoms 27 (A, G, PF) 84 [.ref 0, .ref 103, .int y, .int g, .int (nI k), .int (xc N xs (1 + k))] [.int (smf ((xc N xs (1 + k)) >>> (3 &&& 31))), .int (nI k), .ref 0, .int g] 27 _
      refine go_blk (pc2 := 89) (L2 := [.ref 0, .ref 103, .int y, .int g, .int (nI k), .int (xc N xs (1 + k))]) (st2 := [.int ((xc N xs (1 + k)) >>> (6 &&& 31)), .int (smf ((xc N xs (1 + k)) >>> (3 &&& 31))), .int (nI k), .ref 0, .int g]) (M2 := (A, G, PF)) (hs2 := []) (C := True) [(.iload 5, 0, 0), (.bipush 6, 0, 0), (.ishr, 0, 0)] [] (by decide +kernel) rfl trivial ?_
      refine go_call (Y2 := mX6_small) (n2 := 27) (st := [.int (smf ((xc N xs (1 + k)) >>> (3 &&& 31))), .int (nI k), .ref 0, .int g]) [] [.int ((xc N xs (1 + k)) >>> (6 &&& 31))] ck_6_19 cwX6_small rfl (by decide +kernel) rfl (fun _ => rfl) (fun h => absurd rfl h) (Nat.le_of_ble_eq_true rfl) (Or.inl rfl) (ro1_ro0 N xs) (s_X6_small l A G ((xc N xs (1 + k)) >>> (6 &&& 31))) (fun v M2 hp5 => ?_)
      obtain ⟨rfl, rfl⟩ := hp5
      show Go l (ro1 N xs) mX6_atoms 27 (A, G, PF) 92 [.ref 0, .ref 103, .int y, .int g, .int (nI k), .int (xc N xs (1 + k))] [.int (smf ((xc N xs (1 + k)) >>> (6 &&& 31))), .int (smf ((xc N xs (1 + k)) >>> (3 &&& 31))), .int (nI k), .ref 0, .int g] 27 _
      refine go_blk (pc2 := 97) (L2 := [.ref 0, .ref 103, .int y, .int g, .int (nI k), .int (xc N xs (1 + k))]) (st2 := [.int ((xc N xs (1 + k)) >>> (9 &&& 31)), .int (smf ((xc N xs (1 + k)) >>> (6 &&& 31))), .int (smf ((xc N xs (1 + k)) >>> (3 &&& 31))), .int (nI k), .ref 0, .int g]) (M2 := (A, G, PF)) (hs2 := []) (C := True) [(.iload 5, 0, 0), (.bipush 9, 0, 0), (.ishr, 0, 0)] [] (by decide +kernel) rfl trivial ?_
      refine go_call (Y2 := mX6_small) (n2 := 27) (st := [.int (smf ((xc N xs (1 + k)) >>> (6 &&& 31))), .int (smf ((xc N xs (1 + k)) >>> (3 &&& 31))), .int (nI k), .ref 0, .int g]) [] [.int ((xc N xs (1 + k)) >>> (9 &&& 31))] ck_6_19 cwX6_small rfl (by decide +kernel) rfl (fun _ => rfl) (fun h => absurd rfl h) (Nat.le_of_ble_eq_true rfl) (Or.inl rfl) (ro1_ro0 N xs) (s_X6_small l A G ((xc N xs (1 + k)) >>> (9 &&& 31))) (fun v M2 hp6 => ?_)
      obtain ⟨rfl, rfl⟩ := hp6
      show Go l (ro1 N xs) mX6_atoms 27 (A, G, PF) 100 [.ref 0, .ref 103, .int y, .int g, .int (nI k), .int (xc N xs (1 + k))] [.int (smf ((xc N xs (1 + k)) >>> (9 &&& 31))), .int (smf ((xc N xs (1 + k)) >>> (6 &&& 31))), .int (smf ((xc N xs (1 + k)) >>> (3 &&& 31))), .int (nI k), .ref 0, .int g] 27 _
      refine go_blk (pc2 := 118) (L2 := [.ref 0, .ref 103, .int y, .int g, .int (nI k), .int (xc N xs (1 + k))]) (st2 := [.int (((xc N xs (1 + k)) >>> (18 &&& 31)) &&& 1), .int ((((xc N xs (1 + k)) >>> (12 &&& 31)) &&& 63) - 31), .int (smf ((xc N xs (1 + k)) >>> (9 &&& 31))), .int (smf ((xc N xs (1 + k)) >>> (6 &&& 31))), .int (smf ((xc N xs (1 + k)) >>> (3 &&& 31))), .int (nI k), .ref 0, .int g]) (M2 := (A, G, PF)) (hs2 := []) (C := True) [(.iload 5, 0, 0), (.bipush 12, 0, 0), (.ishr, 0, 0), (.bipush 63, 0, 0), (.iand, 0, 0), (.bipush 31, 0, 0), (.isub, 0, 0), (.iload 5, 0, 0), (.bipush 18, 0, 0), (.ishr, 0, 0), (.iconst 1, 0, 0), (.iand, 0, 0)] [] (by decide +kernel) rfl trivial ?_
      refine go_ifz (cnd := .eq) (off := 7) 125 (by decide +kernel) (by decide) (fun (c7 : (((xc N xs (1 + k)) >>> (18 &&& 31)) &&& 1) = 0) => ?_) (fun (c7 : ¬ (((xc N xs (1 + k)) >>> (18 &&& 31)) &&& 1) = 0) => ?_)
      · skip
        refine go_blk (pc2 := 126) (L2 := [.ref 0, .ref 103, .int y, .int g, .int (nI k), .int (xc N xs (1 + k))]) (st2 := [.int 0, .int ((((xc N xs (1 + k)) >>> (12 &&& 31)) &&& 63) - 31), .int (smf ((xc N xs (1 + k)) >>> (9 &&& 31))), .int (smf ((xc N xs (1 + k)) >>> (6 &&& 31))), .int (smf ((xc N xs (1 + k)) >>> (3 &&& 31))), .int (nI k), .ref 0, .int g]) (M2 := (A, G, PF)) (hs2 := []) (C := True) [(.iconst 0, 0, 0)] [] (by decide +kernel) rfl trivial ?_
        refine go_call (Y2 := mX5_linear) (n2 := 27) (st := [.int g]) [.ref 0] [.int (nI k), .int (smf ((xc N xs (1 + k)) >>> (3 &&& 31))), .int (smf ((xc N xs (1 + k)) >>> (6 &&& 31))), .int (smf ((xc N xs (1 + k)) >>> (9 &&& 31))), .int ((((xc N xs (1 + k)) >>> (12 &&& 31)) &&& 63) - 31), .int 0] ck_6_23 cwX5_linear rfl (by decide +kernel) rfl (fun h => absurd h (by decide)) (fun _ => ⟨0, rfl, by decide, rfl⟩) (Nat.le_of_ble_eq_true rfl) (Or.inl rfl) (ro1_ro0 N xs) (q_lin l A G (kk := k) (by omega) 0 ⟨smf_f9 _, smf_f9 _, smf_f9 _⟩ (f99_63 _) rfl) (fun v M2 hp8 => ?_)
        obtain ⟨rfl, rfl⟩ := hp8
        show Go l (ro1 N xs) mX6_atoms 27 ((u2 (dlin A k (smf ((xc N xs (1 + k)) >>> (3 &&& 31))) (smf ((xc N xs (1 + k)) >>> (6 &&& 31))) (smf ((xc N xs (1 + k)) >>> (9 &&& 31))) ((((xc N xs (1 + k)) >>> (12 &&& 31)) &&& 63) - 31) 0) 0 5 1), G, PF) 129 [.ref 0, .ref 103, .int y, .int g, .int (nI k), .int (xc N xs (1 + k))] [.int 1, .int g] 27 _
        refine go_blk (pc2 := 134) (L2 := [.ref 0, .ref 103, .int y, .int (g &&& 1), .int ((nI k) + 1), .int (xc N xs (1 + k))]) (st2 := []) (M2 := ((u2 (dlin A k (smf ((xc N xs (1 + k)) >>> (3 &&& 31))) (smf ((xc N xs (1 + k)) >>> (6 &&& 31))) (smf ((xc N xs (1 + k)) >>> (9 &&& 31))) ((((xc N xs (1 + k)) >>> (12 &&& 31)) &&& 63) - 31) 0) 0 5 1), G, PF)) (hs2 := []) (C := True) [(.iand, 0, 0), (.istore_n 3, 0, 0), (.iinc 4 1, 0, 0)] [] (by decide +kernel) rfl trivial ?_
        refine go_goto (off := -112) 22 (by decide +kernel) (by decide) ?_
        exact go_as (ih (by omega) (u2 (dlin A k (smf ((xc N xs (1 + k)) >>> (3 &&& 31))) (smf ((xc N xs (1 + k)) >>> (6 &&& 31))) (smf ((xc N xs (1 + k)) >>> (9 &&& 31))) ((((xc N xs (1 + k)) >>> (12 &&& 31)) &&& 63) - 31) 0) 0 5 1) (by rw [← (dm_up k (by omega)).1]; exact hA.lin (dm_up k (by omega)).2 (by omega) _ ⟨smf_f9 _, smf_f9 _, smf_f9 _⟩) (g &&& 1) (by rw [hg]; rfl) (.int (xc N xs (1 + k)))) rfl (by simp only [nI_1]) rfl
      · skip
        refine go_blk (pc2 := 122) (L2 := [.ref 0, .ref 103, .int y, .int g, .int (nI k), .int (xc N xs (1 + k))]) (st2 := [.int 1, .int ((((xc N xs (1 + k)) >>> (12 &&& 31)) &&& 63) - 31), .int (smf ((xc N xs (1 + k)) >>> (9 &&& 31))), .int (smf ((xc N xs (1 + k)) >>> (6 &&& 31))), .int (smf ((xc N xs (1 + k)) >>> (3 &&& 31))), .int (nI k), .ref 0, .int g]) (M2 := (A, G, PF)) (hs2 := []) (C := True) [(.iconst 1, 0, 0)] [] (by decide +kernel) rfl trivial ?_
        refine go_goto (off := 4) 126 (by decide +kernel) (by decide) ?_
        refine go_call (Y2 := mX5_linear) (n2 := 27) (st := [.int g]) [.ref 0] [.int (nI k), .int (smf ((xc N xs (1 + k)) >>> (3 &&& 31))), .int (smf ((xc N xs (1 + k)) >>> (6 &&& 31))), .int (smf ((xc N xs (1 + k)) >>> (9 &&& 31))), .int ((((xc N xs (1 + k)) >>> (12 &&& 31)) &&& 63) - 31), .int 1] ck_6_23 cwX5_linear rfl (by decide +kernel) rfl (fun h => absurd h (by decide)) (fun _ => ⟨0, rfl, by decide, rfl⟩) (Nat.le_of_ble_eq_true rfl) (Or.inl rfl) (ro1_ro0 N xs) (q_lin l A G (kk := k) (by omega) 1 ⟨smf_f9 _, smf_f9 _, smf_f9 _⟩ (f99_63 _) rfl) (fun v M2 hp9 => ?_)
        obtain ⟨rfl, rfl⟩ := hp9
        show Go l (ro1 N xs) mX6_atoms 27 ((u2 (dlin A k (smf ((xc N xs (1 + k)) >>> (3 &&& 31))) (smf ((xc N xs (1 + k)) >>> (6 &&& 31))) (smf ((xc N xs (1 + k)) >>> (9 &&& 31))) ((((xc N xs (1 + k)) >>> (12 &&& 31)) &&& 63) - 31) 1) 0 5 1), G, PF) 129 [.ref 0, .ref 103, .int y, .int g, .int (nI k), .int (xc N xs (1 + k))] [.int 1, .int g] 27 _
        refine go_blk (pc2 := 134) (L2 := [.ref 0, .ref 103, .int y, .int (g &&& 1), .int ((nI k) + 1), .int (xc N xs (1 + k))]) (st2 := []) (M2 := ((u2 (dlin A k (smf ((xc N xs (1 + k)) >>> (3 &&& 31))) (smf ((xc N xs (1 + k)) >>> (6 &&& 31))) (smf ((xc N xs (1 + k)) >>> (9 &&& 31))) ((((xc N xs (1 + k)) >>> (12 &&& 31)) &&& 63) - 31) 1) 0 5 1), G, PF)) (hs2 := []) (C := True) [(.iand, 0, 0), (.istore_n 3, 0, 0), (.iinc 4 1, 0, 0)] [] (by decide +kernel) rfl trivial ?_
        refine go_goto (off := -112) 22 (by decide +kernel) (by decide) ?_
        exact go_as (ih (by omega) (u2 (dlin A k (smf ((xc N xs (1 + k)) >>> (3 &&& 31))) (smf ((xc N xs (1 + k)) >>> (6 &&& 31))) (smf ((xc N xs (1 + k)) >>> (9 &&& 31))) ((((xc N xs (1 + k)) >>> (12 &&& 31)) &&& 63) - 31) 1) 0 5 1) (by rw [← (dm_up k (by omega)).1]; exact hA.lin (dm_up k (by omega)).2 (by omega) _ ⟨smf_f9 _, smf_f9 _, smf_f9 _⟩) (g &&& 1) (by rw [hg]; rfl) (.int (xc N xs (1 + k)))) rfl (by simp only [nI_1]) rfl
    · skip
      refine go_blk (pc2 := 65) (L2 := [.ref 0, .ref 103, .int y, .int g, .int (nI k), .int (xc N xs (1 + k))]) (st2 := [.int ((((xc N xs (1 + k)) >>> (4 &&& 31)) &&& (3 : Int32)) - ((((xc N xs (1 + k)) >>> (4 &&& 31)) &&& (3 : Int32)) / 3) * 3), .int ((((xc N xs (1 + k)) >>> (2 &&& 31)) &&& (3 : Int32)) - ((((xc N xs (1 + k)) >>> (2 &&& 31)) &&& (3 : Int32)) / 3) * 3), .int (nI k), .ref 0, .int g]) (M2 := (A, G, PF)) (hs2 := []) (C := (¬ 3 = 0) ∧ (¬ 3 = 0) ∧ True) [(.iload_n 3, 0, 0), (.aload_n 0, 0, 0), (.iload 4, 0, 0), (.iload 5, 0, 0), (.iconst 2, 0, 0), (.ishr, 0, 0), (.iconst 3, 0, 0), (.iand, 0, 0), (.iconst 3, 0, 0), (.irem, 0, 0), (.iload 5, 0, 0), (.iconst 4, 0, 0), (.ishr, 0, 0), (.iconst 3, 0, 0), (.iand, 0, 0), (.iconst 3, 0, 0), (.irem, 0, 0)] [] (by decide +kernel) rfl ⟨by decide, by decide, trivial⟩ ?_
      refine go_call (Y2 := mX5_fact) (n2 := 27) (st := [.int g]) [.ref 0] [.int (nI k), .int ((((xc N xs (1 + k)) >>> (2 &&& 31)) &&& (3 : Int32)) - ((((xc N xs (1 + k)) >>> (2 &&& 31)) &&& (3 : Int32)) / 3) * 3), .int ((((xc N xs (1 + k)) >>> (4 &&& 31)) &&& (3 : Int32)) - ((((xc N xs (1 + k)) >>> (4 &&& 31)) &&& (3 : Int32)) / 3) * 3)] ck_6_13 cwX5_fact rfl (by decide +kernel) rfl (fun h => absurd h (by decide)) (fun _ => ⟨0, rfl, by decide, rfl⟩) (Nat.le_of_ble_eq_true rfl) (Or.inl rfl) (ro1_ro0 N xs) (q_fac l A G (kk := k) (by omega) hi hj rfl ei ej) (fun v M2 hp10 => ?_)
      obtain ⟨rfl, rfl⟩ := hp10
      show Go l (ro1 N xs) mX6_atoms 27 ((u2 (dfac A k (nI i) (nI j)) 0 5 1), G, PF) 68 [.ref 0, .ref 103, .int y, .int g, .int (nI k), .int (xc N xs (1 + k))] [.int 1, .int g] 27 _
      refine go_blk (pc2 := 70) (L2 := [.ref 0, .ref 103, .int y, .int (g &&& 1), .int (nI k), .int (xc N xs (1 + k))]) (st2 := []) (M2 := ((u2 (dfac A k (nI i) (nI j)) 0 5 1), G, PF)) (hs2 := []) (C := True) [(.iand, 0, 0), (.istore_n 3, 0, 0)] [] (by decide +kernel) rfl trivial ?_
      refine go_goto (off := 61) 131 (by decide +kernel) (by decide) ?_
      refine go_blk (pc2 := 134) (L2 := [.ref 0, .ref 103, .int y, .int (g &&& 1), .int ((nI k) + 1), .int (xc N xs (1 + k))]) (st2 := []) (M2 := ((u2 (dfac A k (nI i) (nI j)) 0 5 1), G, PF)) (hs2 := []) (C := True) [(.iinc 4 1, 0, 0)] [] (by decide +kernel) rfl trivial ?_
      refine go_goto (off := -112) 22 (by decide +kernel) (by decide) ?_
      exact go_as (ih (by omega) (u2 (dfac A k (nI i) (nI j)) 0 5 1) (by rw [← (dm_up k (by omega)).1]; exact hA.fac (dm_up k (by omega)).2 (by omega) hi hj) (g &&& 1) (by rw [hg]; rfl) (.int (xc N xs (1 + k)))) rfl (by simp only [nI_1]) rfl
set_option maxRecDepth 100000 in
set_option maxHeartbeats 4000000 in
theorem s_X6_atoms (l : Launch) (N : Nat) (hN : N < 2 ^ 31) (xs : Nat → Int32) (A : Nat → Nat → Int32) (G : Nat → Nat → Int64) (hA : Ati A 0) : SemR l (ro1 N xs) mX6_atoms [.ref 0, .ref 103] 27 (A, G, PF) 27 (fun r M2 => ∃ mm P dm A2, Mm mm P dm ∧ r = some (.int (nI mm)) ∧ M2 = (A2, G, PF) ∧ Ati A2 dm) := by
  refine sem_of_go (by decide) rfl (by decide) (by decide) rfl (Nat.le_of_ble_eq_true rfl) ?_
  show Go l (ro1 N xs) mX6_atoms 27 (A, G, PF) 0 [.ref 0, .ref 103, .null, .null, .null, .null] [] 27 (fun r M2 => ∃ mm P dm A2, Mm mm P dm ∧ r = some (.int (nI mm)) ∧ M2 = (A2, G, PF) ∧ Ati A2 dm)
  refine go_blk (pc2 := 3) (L2 := [.ref 0, .ref 103, .null, .null, .null, .null]) (st2 := [.int 0, .ref 103, .int 2]) (M2 := (A, G, PF)) (hs2 := []) (C := True) [(.iconst 2, 0, 0), (.aload_n 1, 0, 0), (.iconst 0, 0, 0)] [] (by decide +kernel) rfl trivial ?_
  refine go_call (Y2 := mX6_cell) (n2 := 27) (st := [.int 2]) [] [.ref 103, .int 0] ck_6_7 cwX6_cell rfl (by decide +kernel) rfl (fun _ => rfl) (fun h => absurd rfl h) (Nat.le_of_ble_eq_true rfl) (Or.inl rfl) (fun _ _ _ h => h) (s_X6_cell l N hN xs A G 0 (by decide) 0 rfl) (fun v M2 hp1 => ?_)
  obtain ⟨rfl, rfl⟩ := hp1
  obtain ⟨n, hn, en⟩ := and3 (xc N xs 0)
  show Go l (ro1 N xs) mX6_atoms 27 (A, G, PF) 6 [.ref 0, .ref 103, .null, .null, .null, .null] [.int (xc N xs 0), .int 2] 27 _
  refine go_blk (pc2 := 10) (L2 := [.ref 0, .ref 103, .int (2 + ((xc N xs 0) &&& 3)), .null, .null, .null]) (st2 := []) (M2 := (A, G, PF)) (hs2 := []) (C := True) [(.iconst 3, 0, 0), (.iand, 0, 0), (.iadd, 0, 0), (.istore_n 2, 0, 0)] [] (by decide +kernel) rfl trivial ?_
  obtain ⟨y, ey⟩ : ∃ y : Int32, y = (2 + ((xc N xs 0) &&& 3)) := ⟨_, rfl⟩
  rw [← ey]
  refine go_blk (pc2 := 12) (L2 := [.ref 0, .ref 103, .int y, .null, .null, .null]) (st2 := [.int 5, .int y]) (M2 := (A, G, PF)) (hs2 := []) (C := True) [(.iload_n 2, 0, 0), (.iconst 5, 0, 0)] [] (by decide +kernel) rfl trivial ?_
  refine go_cmp (cnd := .le) (off := 5) 17 (by decide +kernel) (by decide) (fun _ => ?_) (fun (h : ¬ y ≤ 5) => absurd h (fun zz => zz ((nx_le (a := (2 + n)) (b := 5) (ey.trans (by rw [en]; exact n2p n)) rfl (by omega) (by omega)).mpr (by omega))))
  refine go_blk (pc2 := 22) (L2 := [.ref 0, .ref 103, .int y, .int 1, .int 0, .null]) (st2 := []) (M2 := (A, G, PF)) (hs2 := []) (C := True) [(.iconst 1, 0, 0), (.istore_n 3, 0, 0), (.iconst 0, 0, 0), (.istore 4, 0, 0)] [] (by decide +kernel) rfl trivial ?_
  exact lp_X6_atoms l N hN xs G n hn y (ey.trans (by rw [en]; exact n2p n)) 0 (by omega) A hA 1 rfl _
end
section
/-! ===== the clauses out of the script's cells, and their reading ===== -/
def rmm (mm : Nat) (x : Int32) : Int32 := (x &&& 255) - (x &&& 255) / (2 * nI mm) * (2 * nI mm)
theorem rmm_ok {mm P dm : Nat} (hM : Mm mm P dm) (x : Int32) : ∃ j, j < 2 * mm ∧ j < 10 ∧ rmm mm x = nI j := by
  obtain ⟨a, h1, h2⟩ := andk x 255 (by decide)
  have h3 : x &&& 255 = nI a := h2
  unfold rmm
  rw [h3]
  have ha : a < 256 := by omega
  have g2 : ∀ a, a < 256 → nI a - nI a / (2 * nI 2) * (2 * nI 2) = nI (a % 4) := by decide +kernel
  have g3 : ∀ a, a < 256 → nI a - nI a / (2 * nI 3) * (2 * nI 3) = nI (a % 6) := by decide +kernel
  have g4 : ∀ a, a < 256 → nI a - nI a / (2 * nI 4) * (2 * nI 4) = nI (a % 8) := by decide +kernel
  have g5 : ∀ a, a < 256 → nI a - nI a / (2 * nI 5) * (2 * nI 5) = nI (a % 10) := by decide +kernel
  rcases hM with ⟨rfl, -, -⟩ | ⟨rfl, -, -⟩ | ⟨rfl, -, -⟩ | ⟨rfl, -, -⟩
  · exact ⟨a % 4, by omega, by omega, g2 a ha⟩
  · exact ⟨a % 6, by omega, by omega, g3 a ha⟩
  · exact ⟨a % 8, by omega, by omega, g4 a ha⟩
  · exact ⟨a % 10, by omega, by omega, g5 a ha⟩
theorem m2_ne {mm P dm : Nat} (hM : Mm mm P dm) : ¬ (2 * nI mm : Int32) = 0 := by
  rcases hM with ⟨rfl, rfl, rfl⟩ | ⟨rfl, rfl, rfl⟩ | ⟨rfl, rfl, rfl⟩ | ⟨rfl, rfl, rfl⟩ <;> decide
theorem nI_nn : ∀ j, j < 10 → ¬ nI j < 0 := by decide +kernel
theorem rmm_nn {mm P dm : Nat} (hM : Mm mm P dm) (x : Int32) : ¬ rmm mm x < 0 := by
  obtain ⟨j, -, h2, h3⟩ := rmm_ok hM x
  rw [h3]
  exact nI_nn j h2
def clq (mm : Nat) (c : Int32) : Int32 := if (c >>> (8 &&& 31)) &&& 3 = 0 then -1 else rmm mm (c >>> (10 &&& 31))
def clr (mm : Nat) (c : Int32) : Int32 := if clq mm c < 0 then -1 else if (c >>> (18 &&& 31)) &&& 1 = 0 then -1 else rmm mm (c >>> (19 &&& 31))
theorem clq_0 {mm : Nat} {c : Int32} (h : (c >>> (8 &&& 31)) &&& 3 = 0) : -1 = clq mm c := (if_pos h).symm
theorem clq_1 {mm : Nat} {c : Int32} (h : ¬ (c >>> (8 &&& 31)) &&& 3 = 0) : rmm mm (c >>> (10 &&& 31)) = clq mm c := (if_neg h).symm
theorem clr_0 {mm : Nat} {c : Int32} (h : (c >>> (8 &&& 31)) &&& 3 = 0) : -1 = clr mm c := (if_pos (by rw [← clq_0 h]; decide)).symm
theorem clr_1 {mm P dm : Nat} (hM : Mm mm P dm) {c : Int32} (h : ¬ (c >>> (8 &&& 31)) &&& 3 = 0) (h2 : (c >>> (18 &&& 31)) &&& 1 = 0) : -1 = clr mm c := by
  unfold clr
  rw [if_neg (by rw [← clq_1 h]; exact rmm_nn hM _), if_pos h2]
theorem clr_2 {mm P dm : Nat} (hM : Mm mm P dm) {c : Int32} (h : ¬ (c >>> (8 &&& 31)) &&& 3 = 0) (h2 : ¬ (c >>> (18 &&& 31)) &&& 1 = 0) : rmm mm (c >>> (19 &&& 31)) = clr mm c := by
  unfold clr
  rw [if_neg (by rw [← clq_1 h]; exact rmm_nn hM _), if_neg h2]
theorem cl_ok {mm P dm : Nat} (hM : Mm mm P dm) (c : Int32) : (clq mm c = -1 ∨ ∃ j, j < 2 * mm ∧ j < 10 ∧ clq mm c = nI j) ∧ (clr mm c = -1 ∨ ∃ j, j < 2 * mm ∧ j < 10 ∧ clr mm c = nI j) ∧ (clq mm c = -1 → clr mm c = -1) := by
  rcases Classical.em ((c >>> (8 &&& 31)) &&& 3 = 0) with h | h
  · exact ⟨Or.inl (clq_0 h).symm, Or.inl (clr_0 h).symm, fun _ => (clr_0 h).symm⟩
  · refine ⟨Or.inr ?_, ?_, fun z => ?_⟩
    · rw [← clq_1 h]
      exact rmm_ok hM _
    · rcases Classical.em ((c >>> (18 &&& 31)) &&& 1 = 0) with h2 | h2
      · exact Or.inl (clr_1 hM h h2).symm
      · rw [← clr_2 hM h h2]
        exact Or.inr (rmm_ok hM _)
    · exfalso
      rw [← clq_1 h] at z
      have := rmm_nn hM (c >>> (10 &&& 31))
      rw [z] at this
      exact this (by decide)
def Cla (B A : Nat → Nat → Int32) (N : Nat) (xs : Nat → Int32) (mm k : Nat) : Prop :=
  (∀ o, o ≠ 9 → o ≠ 10 → A o = B o) ∧ (∀ i, i < k → A 10 (i * 3) = rmm mm (xc N xs (6 + i)) ∧ A 10 (i * 3 + 1) = clq mm (xc N xs (6 + i)) ∧ A 10 (i * 3 + 2) = clr mm (xc N xs (6 + i))) ∧ A 9 2 = nI k ∧ A 9 3 = 0 ∧ LitOk A
theorem Cla.std {B A : Nat → Nat → Int32} {N : Nat} {xs : Nat → Int32} {mm k dm cnt : Nat} (hB : Std B dm 0 cnt) (h : Cla B A N xs mm k) (hk : k ≤ 8) : Std A dm k cnt := by
  obtain ⟨⟨h1, h2, h3, h4, h5, h6⟩, hC, h05⟩ := hB
  obtain ⟨g1, g2, g3, g4, g5⟩ := h
  refine ⟨⟨FOk_c (g1 2 (by decide) (by decide)) (g1 7 (by decide) (by decide)) (g1 8 (by decide) (by decide)) h1, g5, by rw [g1 1 (by decide) (by decide)]; exact h3, h4, g3, hk⟩, ?_, by rw [g1 0 (by decide) (by decide)]; exact h05⟩
  exact CacheI_c (fun o q1 q2 => g1 o (by omega) (by omega)) (by rw [g1 12 (by decide) (by decide)]) (fun o q1 q2 => g1 o (by omega) (by omega)) hC
theorem lit_ok1 {A : Nat → Nat → Int32} {i : Nat} {x : Int32} (h : A 10 i = x) (hx : x = -1 ∨ ∃ j, j < 10 ∧ x = nI j) : A 10 i = -1 ∨ (lit A i < 10 ∧ A 10 i = nI (lit A i)) := by
  unfold lit
  rw [h]
  rcases hx with q | ⟨j, h1, rfl⟩
  · exact Or.inl q
  · rw [(lit_n j h1).1]
    exact Or.inr ⟨h1, rfl⟩
theorem Cla.add {B A : Nat → Nat → Int32} {N : Nat} {xs : Nat → Int32} {mm P dm k : Nat} (hM : Mm mm P dm) (h : Cla B A N xs mm k) {p q r : Int32} (hp : p = rmm mm (xc N xs (6 + k))) (hq : q = clq mm (xc N xs (6 + k))) (hr : r = clr mm (xc N xs (6 + k))) :
    Cla B (u2 (u2 (u2 (u2 A 10 (k * 3) p) 10 (k * 3 + 1) q) 10 (k * 3 + 2) r) 9 2 (A 9 2 + 1)) N xs mm (k + 1) := by
  obtain ⟨g1, g2, g3, g4, g5⟩ := h
  obtain ⟨o1, o2, -⟩ := cl_ok hM (xc N xs (6 + k))
  obtain ⟨jp, -, o3, o4⟩ := rmm_ok hM (xc N xs (6 + k))
  have hrr : ∀ o, o ≠ 9 → o ≠ 10 → (u2 (u2 (u2 (u2 A 10 (k * 3) p) 10 (k * 3 + 1) q) 10 (k * 3 + 2) r) 9 2 (A 9 2 + 1)) o = A o := fun o q1 q2 => by
    rw [u2_row q1, u2_row q2, u2_row q2, u2_row q2]
  have ho : ∀ i, i < k * 3 ∨ k * 3 + 2 < i → (u2 (u2 (u2 (u2 A 10 (k * 3) p) 10 (k * 3 + 1) q) 10 (k * 3 + 2) r) 9 2 (A 9 2 + 1)) 10 i = A 10 i := fun i hi => by
    rw [u2_o (by decide), u2_k (by omega), u2_k (by omega), u2_k (by omega)]
  have n0 : (u2 (u2 (u2 (u2 A 10 (k * 3) p) 10 (k * 3 + 1) q) 10 (k * 3 + 2) r) 9 2 (A 9 2 + 1)) 10 (k * 3) = p := by
    rw [u2_o (by decide), u2_k (by omega), u2_k (by omega), u2_s]
  have n1 : (u2 (u2 (u2 (u2 A 10 (k * 3) p) 10 (k * 3 + 1) q) 10 (k * 3 + 2) r) 9 2 (A 9 2 + 1)) 10 (k * 3 + 1) = q := by
    rw [u2_o (by decide), u2_k (by omega), u2_s]
  have n2 : (u2 (u2 (u2 (u2 A 10 (k * 3) p) 10 (k * 3 + 1) q) 10 (k * 3 + 2) r) 9 2 (A 9 2 + 1)) 10 (k * 3 + 2) = r := by
    rw [u2_o (by decide), u2_s]
  refine ⟨fun o q1 q2 => by rw [hrr o q1 q2]; exact g1 o q1 q2, fun i hi => ?_, ?_, ?_, fun i hi => ?_⟩
  · by_cases e : i = k
    · subst e
      exact ⟨n0.trans hp, n1.trans hq, n2.trans hr⟩
    · obtain ⟨z1, z2, z3⟩ := g2 i (by omega)
      rw [ho _ (by omega), ho _ (by omega), ho _ (by omega)]
      exact ⟨z1, z2, z3⟩
  · rw [u2_s, g3]; exact nI_1 k
  · rw [u2_k (by decide), u2_o (by decide), u2_o (by decide), u2_o (by decide)]; exact g4
  · by_cases e0 : i = k * 3
    · subst e0
      exact lit_ok1 (n0.trans hp) (Or.inr ⟨jp, o3, o4⟩)
    · by_cases e1 : i = k * 3 + 1
      · subst e1
        exact lit_ok1 (n1.trans hq) (o1.imp id fun ⟨j, _, z2, z3⟩ => ⟨j, z2, z3⟩)
      · by_cases e2 : i = k * 3 + 2
        · subst e2
          exact lit_ok1 (n2.trans hr) (o2.imp id fun ⟨j, _, z2, z3⟩ => ⟨j, z2, z3⟩)
        · unfold lit
          rw [ho i (by omega)]
          exact g5 i hi
theorem q_cl3 (l : Launch) {B A : Nat → Nat → Int32} (G : Nat → Nat → Int64) {N : Nat} {xs : Nat → Int32} {mm P dm k : Nat} (hM : Mm mm P dm) (hB : KI B dm 0) (h : Cla B A N xs mm k) (hk : k < 8) {p q r : Int32} (hp : p = rmm mm (xc N xs (6 + k))) (hq : q = clq mm (xc N xs (6 + k))) (hr : r = clr mm (xc N xs (6 + k))) :
    Sem l mX5_clause [.ref 0, .int p, .int q, .int r] 27 (A, G, PF) 27 (fun r M2 => (∃ v, r = some (.int v)) ∧ ∃ A2, M2 = (A2, G, PF) ∧ Cla B A2 N xs mm (k + 1)) := by
  have h17 : A 1 7 = nI dm := by rw [h.1 1 (by decide) (by decide)]; exact hB.2.2.1
  refine (s_X5_clause l A G dm h17 hB.2.2.2.1 k h.2.2.1 (by omega) p q r).mono ?_
  obtain ⟨o1, o2, o3⟩ := cl_ok hM (xc N xs (6 + k))
  obtain ⟨jp, o4, o5, o6⟩ := rmm_ok hM (xc N xs (6 + k))
  have dfd : ∀ x : Int32, (∃ j, j < 2 * mm ∧ j < 10 ∧ x = nI j) → Dfd dm x := fun x ⟨j, z1, z2, z3⟩ => by rw [z3]; exact (Dfd_nI z2).mpr (hM.tb j z2 z1)
  have hok : ClOk dm p q r := by
    refine ⟨fun z => z.2 ?_, ?_, ?_, ?_⟩
    · rw [hr]
      exact o3 (hq.symm.trans z.1)
    · rw [hp]
      exact dfd _ ⟨jp, o4, o5, o6⟩
    · rw [hq]
      exact o1.imp id (dfd _)
    · rw [hr]
      exact o2.imp id (dfd _)
  rintro v M (⟨-, -, rfl, rfl⟩ | ⟨-, z, -⟩ | ⟨z, -⟩)
  · exact ⟨⟨_, rfl⟩, _, rfl, h.add hM hp hq hr⟩
  · omega
  · exact absurd hok z
theorem LitH_n {A : Nat → Nat → Int32} {s i j : Nat} (hj : j < 10) (h : A 10 i = nI j) (hl : LitH A s i) : HL s j := by
  have := hl.2
  unfold lit at this
  rw [h, (lit_n j hj).1] at this
  exact this
theorem Cla.hit {B A : Nat → Nat → Int32} {N : Nat} {xs : Nat → Int32} {mm P dm nn k s : Nat} (hM : Mm mm P dm) (h : Cla B A N xs mm nn) (hk : k < nn) (hw : Wd A dm nn s) {jp : Nat} (hjp : jp < 10) (ejp : rmm mm (xc N xs (6 + k)) = nI jp) :
    HL s jp ∨ (¬ (xc N xs (6 + k) >>> (8 &&& 31)) &&& 3 = 0 ∧ ∀ jq, jq < 10 → rmm mm (xc N xs (6 + k) >>> (10 &&& 31)) = nI jq → HL s jq) ∨ (¬ (xc N xs (6 + k) >>> (8 &&& 31)) &&& 3 = 0 ∧ ¬ (xc N xs (6 + k) >>> (18 &&& 31)) &&& 1 = 0 ∧ ∀ jr, jr < 10 → rmm mm (xc N xs (6 + k) >>> (19 &&& 31)) = nI jr → HL s jr) := by
  obtain ⟨e0, e1, e2⟩ := h.2.1 k hk
  obtain ⟨i, h1, h2, h3⟩ := hw.2.2 k hk
  rcases (show i = k * 3 ∨ i = k * 3 + 1 ∨ i = k * 3 + 2 by omega) with rfl | rfl | rfl
  · exact Or.inl (LitH_n hjp (e0.trans ejp) h3)
  · rcases Classical.em ((xc N xs (6 + k) >>> (8 &&& 31)) &&& 3 = 0) with q | q
    · exact absurd (e1.trans (clq_0 q).symm) h3.1
    · exact Or.inr (Or.inl ⟨q, fun jq z1 z2 => LitH_n z1 (e1.trans ((clq_1 q).symm.trans z2)) h3⟩)
  · rcases Classical.em ((xc N xs (6 + k) >>> (8 &&& 31)) &&& 3 = 0) with q | q
    · exact absurd (e2.trans (clr_0 q).symm) h3.1
    · rcases Classical.em ((xc N xs (6 + k) >>> (18 &&& 31)) &&& 1 = 0) with q2 | q2
      · exact absurd (e2.trans (clr_1 hM q q2).symm) h3.1
      · exact Or.inr (Or.inr ⟨q, q2, fun jr z1 z2 => LitH_n z1 (e2.trans ((clr_2 hM q q2).symm.trans z2)) h3⟩)
section SAT
variable {B A : Nat → Nat → Int32} {N : Nat} {xs : Nat → Int32} {mm P dm nn k jp jq jr : Nat}
theorem sat_a (hM : Mm mm P dm) (h : Cla B A N xs mm nn) (hk : k < nn) (hjp : jp < 10) (ejp : rmm mm (xc N xs (6 + k)) = nI jp) (h8 : (xc N xs (6 + k) >>> (8 &&& 31)) &&& 3 = 0) : wI (Wd A dm nn) 32 &&& (wI (fun i => HL i jp) 32 ^^^ (-1)) = 0 :=
  wI_sub fun s _ hw => (h.hit hM hk hw hjp ejp).elim id fun z => z.elim (fun z => absurd h8 z.1) (fun z => absurd h8 z.1)
theorem sat_b (hM : Mm mm P dm) (h : Cla B A N xs mm nn) (hk : k < nn) (hjp : jp < 10) (ejp : rmm mm (xc N xs (6 + k)) = nI jp) (hjq : jq < 10) (ejq : rmm mm (xc N xs (6 + k) >>> (10 &&& 31)) = nI jq) (h18 : (xc N xs (6 + k) >>> (18 &&& 31)) &&& 1 = 0) : wI (Wd A dm nn) 32 &&& ((wI (fun i => HL i jp) 32 ||| wI (fun i => HL i jq) 32) ^^^ (-1)) = 0 := by
  rw [wI_or]
  exact wI_sub fun s _ hw => (h.hit hM hk hw hjp ejp).elim Or.inl fun z => z.elim (fun z => Or.inr (z.2 jq hjq ejq)) (fun z => absurd h18 z.2.1)
theorem sat_c (hM : Mm mm P dm) (h : Cla B A N xs mm nn) (hk : k < nn) (hjp : jp < 10) (ejp : rmm mm (xc N xs (6 + k)) = nI jp) (hjq : jq < 10) (ejq : rmm mm (xc N xs (6 + k) >>> (10 &&& 31)) = nI jq) (hjr : jr < 10) (ejr : rmm mm (xc N xs (6 + k) >>> (19 &&& 31)) = nI jr) : wI (Wd A dm nn) 32 &&& (((wI (fun i => HL i jp) 32 ||| wI (fun i => HL i jq) 32) ||| wI (fun i => HL i jr) 32) ^^^ (-1)) = 0 := by
  rw [wI_or, wI_or]
  exact wI_sub fun s _ hw => (h.hit hM hk hw hjp ejp).elim (fun z => Or.inl (Or.inl z)) fun z => z.elim (fun z => Or.inl (Or.inr (z.2 jq hjq ejq))) (fun z => Or.inr (z.2.2 jr hjr ejr))
end SAT
set_option maxRecDepth 100000 in
set_option maxHeartbeats 4000000 in
theorem lp_X6_clauses (l : Launch) (N : Nat) (hN : N < 2 ^ 31) (xs : Nat → Int32) (B : Nat → Nat → Int32) (G : Nat → Nat → Int64) (mm P dm cnt : Nat) (hM : Mm mm P dm) (hB : Std B dm 0 cnt) (nn : Nat) (hnn : nn < 4) (y3 : Int32) (hy3 : y3 = nI nn) (hxn : ((xc N xs 0 >>> (2 &&& 31)) &&& 3) = nI nn) : ∀ k, k ≤ nn → ∀ A, Cla B A N xs mm k → ∀ j5 j6 j7 j8 j9 : Value, Go l (ro1 N xs) mX6_clauses 27 (A, G, PF) 13 [.ref 0, .ref 103, .int (nI mm), .int y3, .int (nI k), j5, j6, j7, j8, j9] [] 27 (fun r M2 => r = none ∧ ∃ nn A2, nn < 4 ∧ ((xc N xs 0 >>> (2 &&& 31)) &&& 3) = nI nn ∧ M2 = (A2, G, PF) ∧ Cla B A2 N xs mm nn) := by
  refine down nn (fun k hk ih A hC j5 j6 j7 j8 j9 => ?_)
  refine go_blk (pc2 := 16) (L2 := [.ref 0, .ref 103, .int (nI mm), .int y3, .int (nI k), j5, j6, j7, j8, j9]) (st2 := [.int y3, .int (nI k)]) (M2 := (A, G, PF)) (hs2 := []) (C := True) [(.iload 4, 0, 0), (.iload_n 3, 0, 0)] [] (by decide +kernel) rfl trivial ?_
  refine go_cmp (cnd := .ge) (off := 107) 123 (by decide +kernel) (by decide) (fun (c1 : y3 ≤ (nI k)) => ?_) (fun (c1 : ¬ y3 ≤ (nI k)) => ?_)
  · skip
    replace c1 : nn ≤ k := (nx_le (a := nn) (b := k) hy3 rfl (by omega) (by omega)).mp c1
    exact go_retv (by decide +kernel) rfl (⟨rfl, nn, A, hnn, hxn, rfl, by rw [show nn = k by omega]; exact hC⟩)
  · skip
    replace c1 : ¬ nn ≤ k := fun zz => c1 ((nx_le (a := nn) (b := k) hy3 rfl (by omega) (by omega)).mpr zz)
    refine go_blk (pc2 := 25) (L2 := [.ref 0, .ref 103, .int (nI mm), .int y3, .int (nI k), j5, j6, j7, j8, j9]) (st2 := [.int (6 + (nI k)), .ref 103]) (M2 := (A, G, PF)) (hs2 := []) (C := True) [(.aload_n 1, 0, 0), (.bipush 6, 0, 0), (.iload 4, 0, 0), (.iadd, 0, 0)] [] (by decide +kernel) rfl trivial ?_
    refine go_call (Y2 := mX6_cell) (n2 := 27) (st := []) [] [.ref 103, .int (6 + (nI k))] ck_6_7 cwX6_cell rfl (by decide +kernel) rfl (fun _ => rfl) (fun h => absurd rfl h) (Nat.le_of_ble_eq_true rfl) (Or.inl rfl) (fun _ _ _ h => h) (s_X6_cell l N hN xs A G (6 + k) (by omega) (6 + (nI k)) (n6p k)) (fun v M2 hp2 => ?_)
    obtain ⟨rfl, rfl⟩ := hp2
    show Go l (ro1 N xs) mX6_clauses 27 (A, G, PF) 28 [.ref 0, .ref 103, .int (nI mm), .int y3, .int (nI k), j5, j6, j7, j8, j9] [.int (xc N xs (6 + k))] 27 _
    refine go_blk (pc2 := 49) (L2 := [.ref 0, .ref 103, .int (nI mm), .int y3, .int (nI k), .int (xc N xs (6 + k)), .int (((xc N xs (6 + k)) &&& (255 : Int32)) - (((xc N xs (6 + k)) &&& (255 : Int32)) / (2 * (nI mm))) * (2 * (nI mm))), j7, j8, j9]) (st2 := [.int (((xc N xs (6 + k)) >>> (8 &&& 31)) &&& 3)]) (M2 := (A, G, PF)) (hs2 := []) (C := (¬ (2 * (nI mm)) = 0) ∧ True) [(.istore 5, 0, 0), (.iload 5, 0, 0), (.sipush 255, 0, 0), (.iand, 0, 0), (.iconst 2, 0, 0), (.iload_n 2, 0, 0), (.imul, 0, 0), (.irem, 0, 0), (.istore 6, 0, 0), (.iload 5, 0, 0), (.bipush 8, 0, 0), (.ishr, 0, 0), (.iconst 3, 0, 0), (.iand, 0, 0)] [] (by decide +kernel) rfl ⟨m2_ne hM, trivial⟩ ?_
    refine go_ifz (cnd := .ne) (off := 7) 56 (by decide +kernel) (by decide) (fun (c3 : ¬ (((xc N xs (6 + k)) >>> (8 &&& 31)) &&& 3) = 0) => ?_) (fun (c3 : (((xc N xs (6 + k)) >>> (8 &&& 31)) &&& 3) = 0) => ?_)
    · skip
      refine go_blk (pc2 := 73) (L2 := [.ref 0, .ref 103, .int (nI mm), .int y3, .int (nI k), .int (xc N xs (6 + k)), .int (((xc N xs (6 + k)) &&& (255 : Int32)) - (((xc N xs (6 + k)) &&& (255 : Int32)) / (2 * (nI mm))) * (2 * (nI mm))), .int ((((xc N xs (6 + k)) >>> (10 &&& 31)) &&& (255 : Int32)) - ((((xc N xs (6 + k)) >>> (10 &&& 31)) &&& (255 : Int32)) / (2 * (nI mm))) * (2 * (nI mm))), j8, j9]) (st2 := [.int ((((xc N xs (6 + k)) >>> (10 &&& 31)) &&& (255 : Int32)) - ((((xc N xs (6 + k)) >>> (10 &&& 31)) &&& (255 : Int32)) / (2 * (nI mm))) * (2 * (nI mm)))]) (M2 := (A, G, PF)) (hs2 := []) (C := (¬ (2 * (nI mm)) = 0) ∧ True) [(.iload 5, 0, 0), (.bipush 10, 0, 0), (.ishr, 0, 0), (.sipush 255, 0, 0), (.iand, 0, 0), (.iconst 2, 0, 0), (.iload_n 2, 0, 0), (.imul, 0, 0), (.irem, 0, 0), (.istore 7, 0, 0), (.iload 7, 0, 0)] [] (by decide +kernel) rfl ⟨m2_ne hM, trivial⟩ ?_
      refine go_ifz (cnd := .lt) (off := 13) 86 (by decide +kernel) (by decide) (fun (h : ((((xc N xs (6 + k)) >>> (10 &&& 31)) &&& (255 : Int32)) - ((((xc N xs (6 + k)) >>> (10 &&& 31)) &&& (255 : Int32)) / (2 * (nI mm))) * (2 * (nI mm))) < 0) => absurd h (rmm_nn hM (xc N xs (6 + k) >>> (10 &&& 31)))) (fun _ => ?_)
      refine go_blk (pc2 := 83) (L2 := [.ref 0, .ref 103, .int (nI mm), .int y3, .int (nI k), .int (xc N xs (6 + k)), .int (((xc N xs (6 + k)) &&& (255 : Int32)) - (((xc N xs (6 + k)) &&& (255 : Int32)) / (2 * (nI mm))) * (2 * (nI mm))), .int ((((xc N xs (6 + k)) >>> (10 &&& 31)) &&& (255 : Int32)) - ((((xc N xs (6 + k)) >>> (10 &&& 31)) &&& (255 : Int32)) / (2 * (nI mm))) * (2 * (nI mm))), j8, j9]) (st2 := [.int (((xc N xs (6 + k)) >>> (18 &&& 31)) &&& 1)]) (M2 := (A, G, PF)) (hs2 := []) (C := True) [(.iload 5, 0, 0), (.bipush 18, 0, 0), (.ishr, 0, 0), (.iconst 1, 0, 0), (.iand, 0, 0)] [] (by decide +kernel) rfl trivial ?_
      refine go_ifz (cnd := .ne) (off := 7) 90 (by decide +kernel) (by decide) (fun (c4 : ¬ (((xc N xs (6 + k)) >>> (18 &&& 31)) &&& 1) = 0) => ?_) (fun (c4 : (((xc N xs (6 + k)) >>> (18 &&& 31)) &&& 1) = 0) => ?_)
      · skip
        refine go_blk (pc2 := 112) (L2 := [.ref 0, .ref 103, .int (nI mm), .int y3, .int (nI k), .int (xc N xs (6 + k)), .int (((xc N xs (6 + k)) &&& (255 : Int32)) - (((xc N xs (6 + k)) &&& (255 : Int32)) / (2 * (nI mm))) * (2 * (nI mm))), .int ((((xc N xs (6 + k)) >>> (10 &&& 31)) &&& (255 : Int32)) - ((((xc N xs (6 + k)) >>> (10 &&& 31)) &&& (255 : Int32)) / (2 * (nI mm))) * (2 * (nI mm))), .int ((((xc N xs (6 + k)) >>> (19 &&& 31)) &&& (255 : Int32)) - ((((xc N xs (6 + k)) >>> (19 &&& 31)) &&& (255 : Int32)) / (2 * (nI mm))) * (2 * (nI mm))), j9]) (st2 := [.int ((((xc N xs (6 + k)) >>> (19 &&& 31)) &&& (255 : Int32)) - ((((xc N xs (6 + k)) >>> (19 &&& 31)) &&& (255 : Int32)) / (2 * (nI mm))) * (2 * (nI mm))), .int ((((xc N xs (6 + k)) >>> (10 &&& 31)) &&& (255 : Int32)) - ((((xc N xs (6 + k)) >>> (10 &&& 31)) &&& (255 : Int32)) / (2 * (nI mm))) * (2 * (nI mm))), .int (((xc N xs (6 + k)) &&& (255 : Int32)) - (((xc N xs (6 + k)) &&& (255 : Int32)) / (2 * (nI mm))) * (2 * (nI mm))), .ref 0]) (M2 := (A, G, PF)) (hs2 := []) (C := (¬ (2 * (nI mm)) = 0) ∧ True) [(.iload 5, 0, 0), (.bipush 19, 0, 0), (.ishr, 0, 0), (.sipush 255, 0, 0), (.iand, 0, 0), (.iconst 2, 0, 0), (.iload_n 2, 0, 0), (.imul, 0, 0), (.irem, 0, 0), (.istore 8, 0, 0), (.aload_n 0, 0, 0), (.iload 6, 0, 0), (.iload 7, 0, 0), (.iload 8, 0, 0)] [] (by decide +kernel) rfl ⟨m2_ne hM, trivial⟩ ?_
        refine go_call (Y2 := mX5_clause) (n2 := 27) (st := []) [.ref 0] [.int (((xc N xs (6 + k)) &&& (255 : Int32)) - (((xc N xs (6 + k)) &&& (255 : Int32)) / (2 * (nI mm))) * (2 * (nI mm))), .int ((((xc N xs (6 + k)) >>> (10 &&& 31)) &&& (255 : Int32)) - ((((xc N xs (6 + k)) >>> (10 &&& 31)) &&& (255 : Int32)) / (2 * (nI mm))) * (2 * (nI mm))), .int ((((xc N xs (6 + k)) >>> (19 &&& 31)) &&& (255 : Int32)) - ((((xc N xs (6 + k)) >>> (19 &&& 31)) &&& (255 : Int32)) / (2 * (nI mm))) * (2 * (nI mm)))] ck_6_27 cwX5_clause rfl (by decide +kernel) rfl (fun h => absurd h (by decide)) (fun _ => ⟨0, rfl, by decide, rfl⟩) (Nat.le_of_ble_eq_true rfl) (Or.inl rfl) (ro1_ro0 N xs) (q_cl3 l G hM hB.1 hC (by omega) rfl (by first | exact clq_0 (by assumption) | exact clq_1 (by assumption)) (by first | exact clr_0 (by assumption) | exact clr_1 hM (by assumption) (by assumption) | exact clr_2 hM (by assumption) (by assumption))) (fun v M2 hp5 => ?_)
        obtain ⟨⟨v9, rfl⟩, A2, rfl, hC2⟩ := hp5
        show Go l (ro1 N xs) mX6_clauses 27 (A2, G, PF) 115 [.ref 0, .ref 103, .int (nI mm), .int y3, .int (nI k), .int (xc N xs (6 + k)), .int (((xc N xs (6 + k)) &&& (255 : Int32)) - (((xc N xs (6 + k)) &&& (255 : Int32)) / (2 * (nI mm))) * (2 * (nI mm))), .int ((((xc N xs (6 + k)) >>> (10 &&& 31)) &&& (255 : Int32)) - ((((xc N xs (6 + k)) >>> (10 &&& 31)) &&& (255 : Int32)) / (2 * (nI mm))) * (2 * (nI mm))), .int ((((xc N xs (6 + k)) >>> (19 &&& 31)) &&& (255 : Int32)) - ((((xc N xs (6 + k)) >>> (19 &&& 31)) &&& (255 : Int32)) / (2 * (nI mm))) * (2 * (nI mm))), j9] [.int v9] 27 _
        refine go_blk (pc2 := 120) (L2 := [.ref 0, .ref 103, .int (nI mm), .int y3, .int ((nI k) + 1), .int (xc N xs (6 + k)), .int (((xc N xs (6 + k)) &&& (255 : Int32)) - (((xc N xs (6 + k)) &&& (255 : Int32)) / (2 * (nI mm))) * (2 * (nI mm))), .int ((((xc N xs (6 + k)) >>> (10 &&& 31)) &&& (255 : Int32)) - ((((xc N xs (6 + k)) >>> (10 &&& 31)) &&& (255 : Int32)) / (2 * (nI mm))) * (2 * (nI mm))), .int ((((xc N xs (6 + k)) >>> (19 &&& 31)) &&& (255 : Int32)) - ((((xc N xs (6 + k)) >>> (19 &&& 31)) &&& (255 : Int32)) / (2 * (nI mm))) * (2 * (nI mm))), .int v9]) (st2 := []) (M2 := (A2, G, PF)) (hs2 := []) (C := True) [(.istore 9, 0, 0), (.iinc 4 1, 0, 0)] [] (by decide +kernel) rfl trivial ?_
        refine go_goto (off := -107) 13 (by decide +kernel) (by decide) ?_
        exact go_as (ih (by omega) A2 hC2 (.int (xc N xs (6 + k))) (.int (((xc N xs (6 + k)) &&& (255 : Int32)) - (((xc N xs (6 + k)) &&& (255 : Int32)) / (2 * (nI mm))) * (2 * (nI mm)))) (.int ((((xc N xs (6 + k)) >>> (10 &&& 31)) &&& (255 : Int32)) - ((((xc N xs (6 + k)) >>> (10 &&& 31)) &&& (255 : Int32)) / (2 * (nI mm))) * (2 * (nI mm)))) (.int ((((xc N xs (6 + k)) >>> (19 &&& 31)) &&& (255 : Int32)) - ((((xc N xs (6 + k)) >>> (19 &&& 31)) &&& (255 : Int32)) / (2 * (nI mm))) * (2 * (nI mm)))) (.int v9)) rfl (by simp only [nI_1]) rfl
      · skip
        refine go_blk (pc2 := 87) (L2 := [.ref 0, .ref 103, .int (nI mm), .int y3, .int (nI k), .int (xc N xs (6 + k)), .int (((xc N xs (6 + k)) &&& (255 : Int32)) - (((xc N xs (6 + k)) &&& (255 : Int32)) / (2 * (nI mm))) * (2 * (nI mm))), .int ((((xc N xs (6 + k)) >>> (10 &&& 31)) &&& (255 : Int32)) - ((((xc N xs (6 + k)) >>> (10 &&& 31)) &&& (255 : Int32)) / (2 * (nI mm))) * (2 * (nI mm))), j8, j9]) (st2 := [.int (-1)]) (M2 := (A, G, PF)) (hs2 := []) (C := True) [(.iconst (-1), 0, 0)] [] (by decide +kernel) rfl trivial ?_
        refine go_goto (off := 16) 103 (by decide +kernel) (by decide) ?_
        refine go_blk (pc2 := 112) (L2 := [.ref 0, .ref 103, .int (nI mm), .int y3, .int (nI k), .int (xc N xs (6 + k)), .int (((xc N xs (6 + k)) &&& (255 : Int32)) - (((xc N xs (6 + k)) &&& (255 : Int32)) / (2 * (nI mm))) * (2 * (nI mm))), .int ((((xc N xs (6 + k)) >>> (10 &&& 31)) &&& (255 : Int32)) - ((((xc N xs (6 + k)) >>> (10 &&& 31)) &&& (255 : Int32)) / (2 * (nI mm))) * (2 * (nI mm))), .int (-1), j9]) (st2 := [.int (-1), .int ((((xc N xs (6 + k)) >>> (10 &&& 31)) &&& (255 : Int32)) - ((((xc N xs (6 + k)) >>> (10 &&& 31)) &&& (255 : Int32)) / (2 * (nI mm))) * (2 * (nI mm))), .int (((xc N xs (6 + k)) &&& (255 : Int32)) - (((xc N xs (6 + k)) &&& (255 : Int32)) / (2 * (nI mm))) * (2 * (nI mm))), .ref 0]) (M2 := (A, G, PF)) (hs2 := []) (C := True) [(.istore 8, 0, 0), (.aload_n 0, 0, 0), (.iload 6, 0, 0), (.iload 7, 0, 0), (.iload 8, 0, 0)] [] (by decide +kernel) rfl trivial ?_
        refine go_call (Y2 := mX5_clause) (n2 := 27) (st := []) [.ref 0] [.int (((xc N xs (6 + k)) &&& (255 : Int32)) - (((xc N xs (6 + k)) &&& (255 : Int32)) / (2 * (nI mm))) * (2 * (nI mm))), .int ((((xc N xs (6 + k)) >>> (10 &&& 31)) &&& (255 : Int32)) - ((((xc N xs (6 + k)) >>> (10 &&& 31)) &&& (255 : Int32)) / (2 * (nI mm))) * (2 * (nI mm))), .int (-1)] ck_6_27 cwX5_clause rfl (by decide +kernel) rfl (fun h => absurd h (by decide)) (fun _ => ⟨0, rfl, by decide, rfl⟩) (Nat.le_of_ble_eq_true rfl) (Or.inl rfl) (ro1_ro0 N xs) (q_cl3 l G hM hB.1 hC (by omega) rfl (by first | exact clq_0 (by assumption) | exact clq_1 (by assumption)) (by first | exact clr_0 (by assumption) | exact clr_1 hM (by assumption) (by assumption) | exact clr_2 hM (by assumption) (by assumption))) (fun v M2 hp6 => ?_)
        obtain ⟨⟨v9, rfl⟩, A2, rfl, hC2⟩ := hp6
        show Go l (ro1 N xs) mX6_clauses 27 (A2, G, PF) 115 [.ref 0, .ref 103, .int (nI mm), .int y3, .int (nI k), .int (xc N xs (6 + k)), .int (((xc N xs (6 + k)) &&& (255 : Int32)) - (((xc N xs (6 + k)) &&& (255 : Int32)) / (2 * (nI mm))) * (2 * (nI mm))), .int ((((xc N xs (6 + k)) >>> (10 &&& 31)) &&& (255 : Int32)) - ((((xc N xs (6 + k)) >>> (10 &&& 31)) &&& (255 : Int32)) / (2 * (nI mm))) * (2 * (nI mm))), .int (-1), j9] [.int v9] 27 _
        refine go_blk (pc2 := 120) (L2 := [.ref 0, .ref 103, .int (nI mm), .int y3, .int ((nI k) + 1), .int (xc N xs (6 + k)), .int (((xc N xs (6 + k)) &&& (255 : Int32)) - (((xc N xs (6 + k)) &&& (255 : Int32)) / (2 * (nI mm))) * (2 * (nI mm))), .int ((((xc N xs (6 + k)) >>> (10 &&& 31)) &&& (255 : Int32)) - ((((xc N xs (6 + k)) >>> (10 &&& 31)) &&& (255 : Int32)) / (2 * (nI mm))) * (2 * (nI mm))), .int (-1), .int v9]) (st2 := []) (M2 := (A2, G, PF)) (hs2 := []) (C := True) [(.istore 9, 0, 0), (.iinc 4 1, 0, 0)] [] (by decide +kernel) rfl trivial ?_
        refine go_goto (off := -107) 13 (by decide +kernel) (by decide) ?_
        exact go_as (ih (by omega) A2 hC2 (.int (xc N xs (6 + k))) (.int (((xc N xs (6 + k)) &&& (255 : Int32)) - (((xc N xs (6 + k)) &&& (255 : Int32)) / (2 * (nI mm))) * (2 * (nI mm)))) (.int ((((xc N xs (6 + k)) >>> (10 &&& 31)) &&& (255 : Int32)) - ((((xc N xs (6 + k)) >>> (10 &&& 31)) &&& (255 : Int32)) / (2 * (nI mm))) * (2 * (nI mm)))) (.int (-1)) (.int v9)) rfl (by simp only [nI_1]) rfl
    · skip
      refine go_blk (pc2 := 53) (L2 := [.ref 0, .ref 103, .int (nI mm), .int y3, .int (nI k), .int (xc N xs (6 + k)), .int (((xc N xs (6 + k)) &&& (255 : Int32)) - (((xc N xs (6 + k)) &&& (255 : Int32)) / (2 * (nI mm))) * (2 * (nI mm))), j7, j8, j9]) (st2 := [.int (-1)]) (M2 := (A, G, PF)) (hs2 := []) (C := True) [(.iconst (-1), 0, 0)] [] (by decide +kernel) rfl trivial ?_
      refine go_goto (off := 16) 69 (by decide +kernel) (by decide) ?_
      refine go_blk (pc2 := 73) (L2 := [.ref 0, .ref 103, .int (nI mm), .int y3, .int (nI k), .int (xc N xs (6 + k)), .int (((xc N xs (6 + k)) &&& (255 : Int32)) - (((xc N xs (6 + k)) &&& (255 : Int32)) / (2 * (nI mm))) * (2 * (nI mm))), .int (-1), j8, j9]) (st2 := [.int (-1)]) (M2 := (A, G, PF)) (hs2 := []) (C := True) [(.istore 7, 0, 0), (.iload 7, 0, 0)] [] (by decide +kernel) rfl trivial ?_
      refine go_ifz (cnd := .lt) (off := 13) 86 (by decide +kernel) (by decide) (fun _ => ?_) (fun (h : ¬ ((-1) : Int32) < 0) => absurd h (by decide))
      refine go_blk (pc2 := 87) (L2 := [.ref 0, .ref 103, .int (nI mm), .int y3, .int (nI k), .int (xc N xs (6 + k)), .int (((xc N xs (6 + k)) &&& (255 : Int32)) - (((xc N xs (6 + k)) &&& (255 : Int32)) / (2 * (nI mm))) * (2 * (nI mm))), .int (-1), j8, j9]) (st2 := [.int (-1)]) (M2 := (A, G, PF)) (hs2 := []) (C := True) [(.iconst (-1), 0, 0)] [] (by decide +kernel) rfl trivial ?_
      refine go_goto (off := 16) 103 (by decide +kernel) (by decide) ?_
      refine go_blk (pc2 := 112) (L2 := [.ref 0, .ref 103, .int (nI mm), .int y3, .int (nI k), .int (xc N xs (6 + k)), .int (((xc N xs (6 + k)) &&& (255 : Int32)) - (((xc N xs (6 + k)) &&& (255 : Int32)) / (2 * (nI mm))) * (2 * (nI mm))), .int (-1), .int (-1), j9]) (st2 := [.int (-1), .int (-1), .int (((xc N xs (6 + k)) &&& (255 : Int32)) - (((xc N xs (6 + k)) &&& (255 : Int32)) / (2 * (nI mm))) * (2 * (nI mm))), .ref 0]) (M2 := (A, G, PF)) (hs2 := []) (C := True) [(.istore 8, 0, 0), (.aload_n 0, 0, 0), (.iload 6, 0, 0), (.iload 7, 0, 0), (.iload 8, 0, 0)] [] (by decide +kernel) rfl trivial ?_
      refine go_call (Y2 := mX5_clause) (n2 := 27) (st := []) [.ref 0] [.int (((xc N xs (6 + k)) &&& (255 : Int32)) - (((xc N xs (6 + k)) &&& (255 : Int32)) / (2 * (nI mm))) * (2 * (nI mm))), .int (-1), .int (-1)] ck_6_27 cwX5_clause rfl (by decide +kernel) rfl (fun h => absurd h (by decide)) (fun _ => ⟨0, rfl, by decide, rfl⟩) (Nat.le_of_ble_eq_true rfl) (Or.inl rfl) (ro1_ro0 N xs) (q_cl3 l G hM hB.1 hC (by omega) rfl (by first | exact clq_0 (by assumption) | exact clq_1 (by assumption)) (by first | exact clr_0 (by assumption) | exact clr_1 hM (by assumption) (by assumption) | exact clr_2 hM (by assumption) (by assumption))) (fun v M2 hp7 => ?_)
      obtain ⟨⟨v9, rfl⟩, A2, rfl, hC2⟩ := hp7
      show Go l (ro1 N xs) mX6_clauses 27 (A2, G, PF) 115 [.ref 0, .ref 103, .int (nI mm), .int y3, .int (nI k), .int (xc N xs (6 + k)), .int (((xc N xs (6 + k)) &&& (255 : Int32)) - (((xc N xs (6 + k)) &&& (255 : Int32)) / (2 * (nI mm))) * (2 * (nI mm))), .int (-1), .int (-1), j9] [.int v9] 27 _
      refine go_blk (pc2 := 120) (L2 := [.ref 0, .ref 103, .int (nI mm), .int y3, .int ((nI k) + 1), .int (xc N xs (6 + k)), .int (((xc N xs (6 + k)) &&& (255 : Int32)) - (((xc N xs (6 + k)) &&& (255 : Int32)) / (2 * (nI mm))) * (2 * (nI mm))), .int (-1), .int (-1), .int v9]) (st2 := []) (M2 := (A2, G, PF)) (hs2 := []) (C := True) [(.istore 9, 0, 0), (.iinc 4 1, 0, 0)] [] (by decide +kernel) rfl trivial ?_
      refine go_goto (off := -107) 13 (by decide +kernel) (by decide) ?_
      exact go_as (ih (by omega) A2 hC2 (.int (xc N xs (6 + k))) (.int (((xc N xs (6 + k)) &&& (255 : Int32)) - (((xc N xs (6 + k)) &&& (255 : Int32)) / (2 * (nI mm))) * (2 * (nI mm)))) (.int (-1)) (.int (-1)) (.int v9)) rfl (by simp only [nI_1]) rfl
set_option maxRecDepth 100000 in
set_option maxHeartbeats 4000000 in
theorem s_X6_clauses (l : Launch) (N : Nat) (hN : N < 2 ^ 31) (xs : Nat → Int32) (B : Nat → Nat → Int32) (G : Nat → Nat → Int64) (mm P dm cnt : Nat) (hM : Mm mm P dm) (hB : Std B dm 0 cnt) (h93 : B 9 3 = 0) : SemR l (ro1 N xs) mX6_clauses [.ref 0, .ref 103, .int (nI mm)] 27 (B, G, PF) 27 (fun r M2 => r = none ∧ ∃ nn A2, nn < 4 ∧ ((xc N xs 0 >>> (2 &&& 31)) &&& 3) = nI nn ∧ M2 = (A2, G, PF) ∧ Cla B A2 N xs mm nn) := by
  refine sem_of_go (by decide) rfl (by decide) (by decide) rfl (Nat.le_of_ble_eq_true rfl) ?_
  show Go l (ro1 N xs) mX6_clauses 27 (B, G, PF) 0 [.ref 0, .ref 103, .int (nI mm), .null, .null, .null, .null, .null, .null, .null] [] 27 (fun r M2 => r = none ∧ ∃ nn A2, nn < 4 ∧ ((xc N xs 0 >>> (2 &&& 31)) &&& 3) = nI nn ∧ M2 = (A2, G, PF) ∧ Cla B A2 N xs mm nn)
  refine go_blk (pc2 := 2) (L2 := [.ref 0, .ref 103, .int (nI mm), .null, .null, .null, .null, .null, .null, .null]) (st2 := [.int 0, .ref 103]) (M2 := (B, G, PF)) (hs2 := []) (C := True) [(.aload_n 1, 0, 0), (.iconst 0, 0, 0)] [] (by decide +kernel) rfl trivial ?_
  refine go_call (Y2 := mX6_cell) (n2 := 27) (st := []) [] [.ref 103, .int 0] ck_6_7 cwX6_cell rfl (by decide +kernel) rfl (fun _ => rfl) (fun h => absurd rfl h) (Nat.le_of_ble_eq_true rfl) (Or.inl rfl) (fun _ _ _ h => h) (s_X6_cell l N hN xs B G 0 (by decide) 0 rfl) (fun v M2 hp1 => ?_)
  obtain ⟨rfl, rfl⟩ := hp1
  obtain ⟨nn, hnn, enn⟩ := and3 (xc N xs 0 >>> (2 &&& 31))
  show Go l (ro1 N xs) mX6_clauses 27 (B, G, PF) 5 [.ref 0, .ref 103, .int (nI mm), .null, .null, .null, .null, .null, .null, .null] [.int (xc N xs 0)] 27 _
  refine go_blk (pc2 := 10) (L2 := [.ref 0, .ref 103, .int (nI mm), .int (((xc N xs 0) >>> (2 &&& 31)) &&& 3), .null, .null, .null, .null, .null, .null]) (st2 := []) (M2 := (B, G, PF)) (hs2 := []) (C := True) [(.iconst 2, 0, 0), (.ishr, 0, 0), (.iconst 3, 0, 0), (.iand, 0, 0), (.istore_n 3, 0, 0)] [] (by decide +kernel) rfl trivial ?_
  obtain ⟨y3, ey3⟩ : ∃ y : Int32, y = (((xc N xs 0) >>> (2 &&& 31)) &&& 3) := ⟨_, rfl⟩
  rw [← ey3]
  refine go_blk (pc2 := 13) (L2 := [.ref 0, .ref 103, .int (nI mm), .int y3, .int 0, .null, .null, .null, .null, .null]) (st2 := []) (M2 := (B, G, PF)) (hs2 := []) (C := True) [(.iconst 0, 0, 0), (.istore 4, 0, 0)] [] (by decide +kernel) rfl trivial ?_
  subst ey3
  exact lp_X6_clauses l N hN xs B G mm P dm cnt hM hB nn hnn _ enn enn 0 (by omega) B ⟨fun _ _ _ => rfl, fun i hi => absurd hi (Nat.not_lt_zero i), hB.1.2.2.2.2.1, h93, hB.1.2.1⟩ _ _ _ _ _
set_option maxRecDepth 100000 in
set_option maxHeartbeats 4000000 in
theorem lp_X6_satisfied (l : Launch) (N : Nat) (hN : N < 2 ^ 31) (xs : Nat → Int32) (A : Nat → Nat → Int32) (G : Nat → Nat → Int64) (B : Nat → Nat → Int32) (mm P dm : Nat) (hM : Mm mm P dm) (nn : Nat) (hnn : nn < 4) (hC : Cla B A N xs mm nn) (y3 : Int32) (hy3 : y3 = nI nn) : ∀ k, k ≤ nn → ∀ (j5 : Value) (j6 : Value) (j7 : Value), Go l (ro1 N xs) mX6_satisfied 27 (A, G, PF) 13 [.int (wI (Wd A dm nn) 32), .ref 103, .int (nI mm), .int y3, .int (nI k), j5, j6, j7] [] 27 (pv 1 (A, G, PF)) := by
  refine down nn (fun k hk ih j5 j6 j7 => ?_)
  refine go_blk (pc2 := 16) (L2 := [.int (wI (Wd A dm nn) 32), .ref 103, .int (nI mm), .int y3, .int (nI k), j5, j6, j7]) (st2 := [.int y3, .int (nI k)]) (M2 := (A, G, PF)) (hs2 := []) (C := True) [(.iload 4, 0, 0), (.iload_n 3, 0, 0)] [] (by decide +kernel) rfl trivial ?_
  refine go_cmp (cnd := .ge) (off := 126) 142 (by decide +kernel) (by decide) (fun (c1 : y3 ≤ (nI k)) => ?_) (fun (c1 : ¬ y3 ≤ (nI k)) => ?_)
  · skip
    replace c1 : nn ≤ k := (nx_le (a := nn) (b := k) hy3 rfl (by omega) (by omega)).mp c1
    refine go_blk (pc2 := 143) (L2 := [.int (wI (Wd A dm nn) 32), .ref 103, .int (nI mm), .int y3, .int (nI k), j5, j6, j7]) (st2 := [.int 1]) (M2 := (A, G, PF)) (hs2 := []) (C := True) [(.iconst 1, 0, 0)] [] (by decide +kernel) rfl trivial ?_
    exact go_retz (by decide +kernel) rfl (Or.inr rfl) (⟨rfl, rfl⟩)
  · skip
    replace c1 : ¬ nn ≤ k := fun zz => c1 ((nx_le (a := nn) (b := k) hy3 rfl (by omega) (by omega)).mpr zz)
    refine go_blk (pc2 := 25) (L2 := [.int (wI (Wd A dm nn) 32), .ref 103, .int (nI mm), .int y3, .int (nI k), j5, j6, j7]) (st2 := [.int (6 + (nI k)), .ref 103]) (M2 := (A, G, PF)) (hs2 := []) (C := True) [(.aload_n 1, 0, 0), (.bipush 6, 0, 0), (.iload 4, 0, 0), (.iadd, 0, 0)] [] (by decide +kernel) rfl trivial ?_
    refine go_call (Y2 := mX6_cell) (n2 := 27) (st := []) [] [.ref 103, .int (6 + (nI k))] ck_6_7 cwX6_cell rfl (by decide +kernel) rfl (fun _ => rfl) (fun h => absurd rfl h) (Nat.le_of_ble_eq_true rfl) (Or.inl rfl) (fun _ _ _ h => h) (s_X6_cell l N hN xs A G (6 + k) (by omega) (6 + (nI k)) (n6p k)) (fun v M2 hp2 => ?_)
    obtain ⟨rfl, rfl⟩ := hp2
    obtain ⟨jp, -, hjp, ejp⟩ := rmm_ok hM (xc N xs (6 + k))
    obtain ⟨jq, -, hjq, ejq⟩ := rmm_ok hM (xc N xs (6 + k) >>> (10 &&& 31))
    obtain ⟨jr, -, hjr, ejr⟩ := rmm_ok hM (xc N xs (6 + k) >>> (19 &&& 31))
    show Go l (ro1 N xs) mX6_satisfied 27 (A, G, PF) 28 [.int (wI (Wd A dm nn) 32), .ref 103, .int (nI mm), .int y3, .int (nI k), j5, j6, j7] [.int (xc N xs (6 + k))] 27 _
    refine go_blk (pc2 := 40) (L2 := [.int (wI (Wd A dm nn) 32), .ref 103, .int (nI mm), .int y3, .int (nI k), .int (xc N xs (6 + k)), j6, j7]) (st2 := [.int (((xc N xs (6 + k)) &&& (255 : Int32)) - (((xc N xs (6 + k)) &&& (255 : Int32)) / (2 * (nI mm))) * (2 * (nI mm)))]) (M2 := (A, G, PF)) (hs2 := []) (C := (¬ (2 * (nI mm)) = 0) ∧ True) [(.istore 5, 0, 0), (.iload 5, 0, 0), (.sipush 255, 0, 0), (.iand, 0, 0), (.iconst 2, 0, 0), (.iload_n 2, 0, 0), (.imul, 0, 0), (.irem, 0, 0)] [] (by decide +kernel) rfl ⟨m2_ne hM, trivial⟩ ?_
    refine go_call (Y2 := mX6_with) (n2 := 27) (st := []) [] [.int (((xc N xs (6 + k)) &&& (255 : Int32)) - (((xc N xs (6 + k)) &&& (255 : Int32)) / (2 * (nI mm))) * (2 * (nI mm)))] ck_6_35 cwX6_with rfl (by decide +kernel) rfl (fun _ => rfl) (fun h => absurd rfl h) (Nat.le_of_ble_eq_true rfl) (Or.inl rfl) (ro1_ro0 N xs) (by rw [show (((xc N xs (6 + k)) &&& (255 : Int32)) - (((xc N xs (6 + k)) &&& (255 : Int32)) / (2 * (nI mm))) * (2 * (nI mm))) = nI jp from ejp]; exact s_X6_with l A G jp hjp) (fun v M2 hp3 => ?_)
    obtain ⟨rfl, rfl⟩ := hp3
    show Go l (ro1 N xs) mX6_satisfied 27 (A, G, PF) 43 [.int (wI (Wd A dm nn) 32), .ref 103, .int (nI mm), .int y3, .int (nI k), .int (xc N xs (6 + k)), j6, j7] [.int (wI (fun i => HL i jp) 32)] 27 _
    refine go_blk (pc2 := 52) (L2 := [.int (wI (Wd A dm nn) 32), .ref 103, .int (nI mm), .int y3, .int (nI k), .int (xc N xs (6 + k)), .int (wI (fun i => HL i jp) 32), j7]) (st2 := [.int (((xc N xs (6 + k)) >>> (8 &&& 31)) &&& 3)]) (M2 := (A, G, PF)) (hs2 := []) (C := True) [(.istore 6, 0, 0), (.iload 5, 0, 0), (.bipush 8, 0, 0), (.ishr, 0, 0), (.iconst 3, 0, 0), (.iand, 0, 0)] [] (by decide +kernel) rfl trivial ?_
    refine go_ifz (cnd := .ne) (off := 7) 59 (by decide +kernel) (by decide) (fun (c4 : ¬ (((xc N xs (6 + k)) >>> (8 &&& 31)) &&& 3) = 0) => ?_) (fun (c4 : (((xc N xs (6 + k)) >>> (8 &&& 31)) &&& 3) = 0) => ?_)
    · skip
      refine go_blk (pc2 := 76) (L2 := [.int (wI (Wd A dm nn) 32), .ref 103, .int (nI mm), .int y3, .int (nI k), .int (xc N xs (6 + k)), .int (wI (fun i => HL i jp) 32), .int ((((xc N xs (6 + k)) >>> (10 &&& 31)) &&& (255 : Int32)) - ((((xc N xs (6 + k)) >>> (10 &&& 31)) &&& (255 : Int32)) / (2 * (nI mm))) * (2 * (nI mm)))]) (st2 := [.int ((((xc N xs (6 + k)) >>> (10 &&& 31)) &&& (255 : Int32)) - ((((xc N xs (6 + k)) >>> (10 &&& 31)) &&& (255 : Int32)) / (2 * (nI mm))) * (2 * (nI mm)))]) (M2 := (A, G, PF)) (hs2 := []) (C := (¬ (2 * (nI mm)) = 0) ∧ True) [(.iload 5, 0, 0), (.bipush 10, 0, 0), (.ishr, 0, 0), (.sipush 255, 0, 0), (.iand, 0, 0), (.iconst 2, 0, 0), (.iload_n 2, 0, 0), (.imul, 0, 0), (.irem, 0, 0), (.istore 7, 0, 0), (.iload 7, 0, 0)] [] (by decide +kernel) rfl ⟨m2_ne hM, trivial⟩ ?_
      refine go_ifz (cnd := .lt) (off := 13) 89 (by decide +kernel) (by decide) (fun (h : ((((xc N xs (6 + k)) >>> (10 &&& 31)) &&& (255 : Int32)) - ((((xc N xs (6 + k)) >>> (10 &&& 31)) &&& (255 : Int32)) / (2 * (nI mm))) * (2 * (nI mm))) < 0) => absurd h (rmm_nn hM (xc N xs (6 + k) >>> (10 &&& 31)))) (fun _ => ?_)
      refine go_blk (pc2 := 83) (L2 := [.int (wI (Wd A dm nn) 32), .ref 103, .int (nI mm), .int y3, .int (nI k), .int (xc N xs (6 + k)), .int (wI (fun i => HL i jp) 32), .int ((((xc N xs (6 + k)) >>> (10 &&& 31)) &&& (255 : Int32)) - ((((xc N xs (6 + k)) >>> (10 &&& 31)) &&& (255 : Int32)) / (2 * (nI mm))) * (2 * (nI mm)))]) (st2 := [.int ((((xc N xs (6 + k)) >>> (10 &&& 31)) &&& (255 : Int32)) - ((((xc N xs (6 + k)) >>> (10 &&& 31)) &&& (255 : Int32)) / (2 * (nI mm))) * (2 * (nI mm))), .int (wI (fun i => HL i jp) 32)]) (M2 := (A, G, PF)) (hs2 := []) (C := True) [(.iload 6, 0, 0), (.iload 7, 0, 0)] [] (by decide +kernel) rfl trivial ?_
      refine go_call (Y2 := mX6_with) (n2 := 27) (st := [.int (wI (fun i => HL i jp) 32)]) [] [.int ((((xc N xs (6 + k)) >>> (10 &&& 31)) &&& (255 : Int32)) - ((((xc N xs (6 + k)) >>> (10 &&& 31)) &&& (255 : Int32)) / (2 * (nI mm))) * (2 * (nI mm)))] ck_6_35 cwX6_with rfl (by decide +kernel) rfl (fun _ => rfl) (fun h => absurd rfl h) (Nat.le_of_ble_eq_true rfl) (Or.inl rfl) (ro1_ro0 N xs) (by rw [show ((((xc N xs (6 + k)) >>> (10 &&& 31)) &&& (255 : Int32)) - ((((xc N xs (6 + k)) >>> (10 &&& 31)) &&& (255 : Int32)) / (2 * (nI mm))) * (2 * (nI mm))) = nI jq from ejq]; exact s_X6_with l A G jq hjq) (fun v M2 hp5 => ?_)
      obtain ⟨rfl, rfl⟩ := hp5
      show Go l (ro1 N xs) mX6_satisfied 27 (A, G, PF) 86 [.int (wI (Wd A dm nn) 32), .ref 103, .int (nI mm), .int y3, .int (nI k), .int (xc N xs (6 + k)), .int (wI (fun i => HL i jp) 32), .int ((((xc N xs (6 + k)) >>> (10 &&& 31)) &&& (255 : Int32)) - ((((xc N xs (6 + k)) >>> (10 &&& 31)) &&& (255 : Int32)) / (2 * (nI mm))) * (2 * (nI mm)))] [.int (wI (fun i => HL i jq) 32), .int (wI (fun i => HL i jp) 32)] 27 _
      refine go_blk (pc2 := 91) (L2 := [.int (wI (Wd A dm nn) 32), .ref 103, .int (nI mm), .int y3, .int (nI k), .int (xc N xs (6 + k)), .int ((wI (fun i => HL i jp) 32) ||| (wI (fun i => HL i jq) 32)), .int ((((xc N xs (6 + k)) >>> (10 &&& 31)) &&& (255 : Int32)) - ((((xc N xs (6 + k)) >>> (10 &&& 31)) &&& (255 : Int32)) / (2 * (nI mm))) * (2 * (nI mm)))]) (st2 := [.int ((((xc N xs (6 + k)) >>> (10 &&& 31)) &&& (255 : Int32)) - ((((xc N xs (6 + k)) >>> (10 &&& 31)) &&& (255 : Int32)) / (2 * (nI mm))) * (2 * (nI mm)))]) (M2 := (A, G, PF)) (hs2 := []) (C := True) [(.ior, 0, 0), (.istore 6, 0, 0), (.iload 7, 0, 0)] [] (by decide +kernel) rfl trivial ?_
      refine go_ifz (cnd := .lt) (off := 34) 125 (by decide +kernel) (by decide) (fun (h : ((((xc N xs (6 + k)) >>> (10 &&& 31)) &&& (255 : Int32)) - ((((xc N xs (6 + k)) >>> (10 &&& 31)) &&& (255 : Int32)) / (2 * (nI mm))) * (2 * (nI mm))) < 0) => absurd h (rmm_nn hM (xc N xs (6 + k) >>> (10 &&& 31)))) (fun _ => ?_)
      refine go_blk (pc2 := 101) (L2 := [.int (wI (Wd A dm nn) 32), .ref 103, .int (nI mm), .int y3, .int (nI k), .int (xc N xs (6 + k)), .int ((wI (fun i => HL i jp) 32) ||| (wI (fun i => HL i jq) 32)), .int ((((xc N xs (6 + k)) >>> (10 &&& 31)) &&& (255 : Int32)) - ((((xc N xs (6 + k)) >>> (10 &&& 31)) &&& (255 : Int32)) / (2 * (nI mm))) * (2 * (nI mm)))]) (st2 := [.int (((xc N xs (6 + k)) >>> (18 &&& 31)) &&& 1)]) (M2 := (A, G, PF)) (hs2 := []) (C := True) [(.iload 5, 0, 0), (.bipush 18, 0, 0), (.ishr, 0, 0), (.iconst 1, 0, 0), (.iand, 0, 0)] [] (by decide +kernel) rfl trivial ?_
      refine go_ifz (cnd := .eq) (off := 24) 125 (by decide +kernel) (by decide) (fun (c6 : (((xc N xs (6 + k)) >>> (18 &&& 31)) &&& 1) = 0) => ?_) (fun (c6 : ¬ (((xc N xs (6 + k)) >>> (18 &&& 31)) &&& 1) = 0) => ?_)
      · skip
        refine go_blk (pc2 := 131) (L2 := [.int (wI (Wd A dm nn) 32), .ref 103, .int (nI mm), .int y3, .int (nI k), .int (xc N xs (6 + k)), .int ((wI (fun i => HL i jp) 32) ||| (wI (fun i => HL i jq) 32)), .int ((((xc N xs (6 + k)) >>> (10 &&& 31)) &&& (255 : Int32)) - ((((xc N xs (6 + k)) >>> (10 &&& 31)) &&& (255 : Int32)) / (2 * (nI mm))) * (2 * (nI mm)))]) (st2 := [.int ((wI (Wd A dm nn) 32) &&& (((wI (fun i => HL i jp) 32) ||| (wI (fun i => HL i jq) 32)) ^^^ (-1)))]) (M2 := (A, G, PF)) (hs2 := []) (C := True) [(.iload_n 0, 0, 0), (.iload 6, 0, 0), (.iconst (-1), 0, 0), (.ixor, 0, 0), (.iand, 0, 0)] [] (by decide +kernel) rfl trivial ?_
        refine go_ifz (cnd := .eq) (off := 5) 136 (by decide +kernel) (by decide) (fun _ => ?_) (fun (h : ¬ ((wI (Wd A dm nn) 32) &&& (((wI (fun i => HL i jp) 32) ||| (wI (fun i => HL i jq) 32)) ^^^ (-1))) = 0) => absurd h (fun zz => zz (sat_b hM hC (by omega) hjp ejp hjq ejq (by assumption))))
        refine go_blk (pc2 := 139) (L2 := [.int (wI (Wd A dm nn) 32), .ref 103, .int (nI mm), .int y3, .int ((nI k) + 1), .int (xc N xs (6 + k)), .int ((wI (fun i => HL i jp) 32) ||| (wI (fun i => HL i jq) 32)), .int ((((xc N xs (6 + k)) >>> (10 &&& 31)) &&& (255 : Int32)) - ((((xc N xs (6 + k)) >>> (10 &&& 31)) &&& (255 : Int32)) / (2 * (nI mm))) * (2 * (nI mm)))]) (st2 := []) (M2 := (A, G, PF)) (hs2 := []) (C := True) [(.iinc 4 1, 0, 0)] [] (by decide +kernel) rfl trivial ?_
        refine go_goto (off := -126) 13 (by decide +kernel) (by decide) ?_
        exact go_as (ih (by omega) (.int (xc N xs (6 + k))) (.int ((wI (fun i => HL i jp) 32) ||| (wI (fun i => HL i jq) 32))) (.int ((((xc N xs (6 + k)) >>> (10 &&& 31)) &&& (255 : Int32)) - ((((xc N xs (6 + k)) >>> (10 &&& 31)) &&& (255 : Int32)) / (2 * (nI mm))) * (2 * (nI mm))))) rfl (by simp only [nI_1]) rfl
      · skip
        refine go_blk (pc2 := 119) (L2 := [.int (wI (Wd A dm nn) 32), .ref 103, .int (nI mm), .int y3, .int (nI k), .int (xc N xs (6 + k)), .int ((wI (fun i => HL i jp) 32) ||| (wI (fun i => HL i jq) 32)), .int ((((xc N xs (6 + k)) >>> (10 &&& 31)) &&& (255 : Int32)) - ((((xc N xs (6 + k)) >>> (10 &&& 31)) &&& (255 : Int32)) / (2 * (nI mm))) * (2 * (nI mm)))]) (st2 := [.int ((((xc N xs (6 + k)) >>> (19 &&& 31)) &&& (255 : Int32)) - ((((xc N xs (6 + k)) >>> (19 &&& 31)) &&& (255 : Int32)) / (2 * (nI mm))) * (2 * (nI mm))), .int ((wI (fun i => HL i jp) 32) ||| (wI (fun i => HL i jq) 32))]) (M2 := (A, G, PF)) (hs2 := []) (C := (¬ (2 * (nI mm)) = 0) ∧ True) [(.iload 6, 0, 0), (.iload 5, 0, 0), (.bipush 19, 0, 0), (.ishr, 0, 0), (.sipush 255, 0, 0), (.iand, 0, 0), (.iconst 2, 0, 0), (.iload_n 2, 0, 0), (.imul, 0, 0), (.irem, 0, 0)] [] (by decide +kernel) rfl ⟨m2_ne hM, trivial⟩ ?_
        refine go_call (Y2 := mX6_with) (n2 := 27) (st := [.int ((wI (fun i => HL i jp) 32) ||| (wI (fun i => HL i jq) 32))]) [] [.int ((((xc N xs (6 + k)) >>> (19 &&& 31)) &&& (255 : Int32)) - ((((xc N xs (6 + k)) >>> (19 &&& 31)) &&& (255 : Int32)) / (2 * (nI mm))) * (2 * (nI mm)))] ck_6_35 cwX6_with rfl (by decide +kernel) rfl (fun _ => rfl) (fun h => absurd rfl h) (Nat.le_of_ble_eq_true rfl) (Or.inl rfl) (ro1_ro0 N xs) (by rw [show ((((xc N xs (6 + k)) >>> (19 &&& 31)) &&& (255 : Int32)) - ((((xc N xs (6 + k)) >>> (19 &&& 31)) &&& (255 : Int32)) / (2 * (nI mm))) * (2 * (nI mm))) = nI jr from ejr]; exact s_X6_with l A G jr hjr) (fun v M2 hp7 => ?_)
        obtain ⟨rfl, rfl⟩ := hp7
        show Go l (ro1 N xs) mX6_satisfied 27 (A, G, PF) 122 [.int (wI (Wd A dm nn) 32), .ref 103, .int (nI mm), .int y3, .int (nI k), .int (xc N xs (6 + k)), .int ((wI (fun i => HL i jp) 32) ||| (wI (fun i => HL i jq) 32)), .int ((((xc N xs (6 + k)) >>> (10 &&& 31)) &&& (255 : Int32)) - ((((xc N xs (6 + k)) >>> (10 &&& 31)) &&& (255 : Int32)) / (2 * (nI mm))) * (2 * (nI mm)))] [.int (wI (fun i => HL i jr) 32), .int ((wI (fun i => HL i jp) 32) ||| (wI (fun i => HL i jq) 32))] 27 _
        refine go_blk (pc2 := 131) (L2 := [.int (wI (Wd A dm nn) 32), .ref 103, .int (nI mm), .int y3, .int (nI k), .int (xc N xs (6 + k)), .int (((wI (fun i => HL i jp) 32) ||| (wI (fun i => HL i jq) 32)) ||| (wI (fun i => HL i jr) 32)), .int ((((xc N xs (6 + k)) >>> (10 &&& 31)) &&& (255 : Int32)) - ((((xc N xs (6 + k)) >>> (10 &&& 31)) &&& (255 : Int32)) / (2 * (nI mm))) * (2 * (nI mm)))]) (st2 := [.int ((wI (Wd A dm nn) 32) &&& ((((wI (fun i => HL i jp) 32) ||| (wI (fun i => HL i jq) 32)) ||| (wI (fun i => HL i jr) 32)) ^^^ (-1)))]) (M2 := (A, G, PF)) (hs2 := []) (C := True) [(.ior, 0, 0), (.istore 6, 0, 0), (.iload_n 0, 0, 0), (.iload 6, 0, 0), (.iconst (-1), 0, 0), (.ixor, 0, 0), (.iand, 0, 0)] [] (by decide +kernel) rfl trivial ?_
        refine go_ifz (cnd := .eq) (off := 5) 136 (by decide +kernel) (by decide) (fun _ => ?_) (fun (h : ¬ ((wI (Wd A dm nn) 32) &&& ((((wI (fun i => HL i jp) 32) ||| (wI (fun i => HL i jq) 32)) ||| (wI (fun i => HL i jr) 32)) ^^^ (-1))) = 0) => absurd h (fun zz => zz (sat_c hM hC (by omega) hjp ejp hjq ejq hjr ejr)))
        refine go_blk (pc2 := 139) (L2 := [.int (wI (Wd A dm nn) 32), .ref 103, .int (nI mm), .int y3, .int ((nI k) + 1), .int (xc N xs (6 + k)), .int (((wI (fun i => HL i jp) 32) ||| (wI (fun i => HL i jq) 32)) ||| (wI (fun i => HL i jr) 32)), .int ((((xc N xs (6 + k)) >>> (10 &&& 31)) &&& (255 : Int32)) - ((((xc N xs (6 + k)) >>> (10 &&& 31)) &&& (255 : Int32)) / (2 * (nI mm))) * (2 * (nI mm)))]) (st2 := []) (M2 := (A, G, PF)) (hs2 := []) (C := True) [(.iinc 4 1, 0, 0)] [] (by decide +kernel) rfl trivial ?_
        refine go_goto (off := -126) 13 (by decide +kernel) (by decide) ?_
        exact go_as (ih (by omega) (.int (xc N xs (6 + k))) (.int (((wI (fun i => HL i jp) 32) ||| (wI (fun i => HL i jq) 32)) ||| (wI (fun i => HL i jr) 32))) (.int ((((xc N xs (6 + k)) >>> (10 &&& 31)) &&& (255 : Int32)) - ((((xc N xs (6 + k)) >>> (10 &&& 31)) &&& (255 : Int32)) / (2 * (nI mm))) * (2 * (nI mm))))) rfl (by simp only [nI_1]) rfl
    · skip
      refine go_blk (pc2 := 56) (L2 := [.int (wI (Wd A dm nn) 32), .ref 103, .int (nI mm), .int y3, .int (nI k), .int (xc N xs (6 + k)), .int (wI (fun i => HL i jp) 32), j7]) (st2 := [.int (-1)]) (M2 := (A, G, PF)) (hs2 := []) (C := True) [(.iconst (-1), 0, 0)] [] (by decide +kernel) rfl trivial ?_
      refine go_goto (off := 16) 72 (by decide +kernel) (by decide) ?_
      refine go_blk (pc2 := 76) (L2 := [.int (wI (Wd A dm nn) 32), .ref 103, .int (nI mm), .int y3, .int (nI k), .int (xc N xs (6 + k)), .int (wI (fun i => HL i jp) 32), .int (-1)]) (st2 := [.int (-1)]) (M2 := (A, G, PF)) (hs2 := []) (C := True) [(.istore 7, 0, 0), (.iload 7, 0, 0)] [] (by decide +kernel) rfl trivial ?_
      refine go_ifz (cnd := .lt) (off := 13) 89 (by decide +kernel) (by decide) (fun _ => ?_) (fun (h : ¬ ((-1) : Int32) < 0) => absurd h (by decide))
      refine go_blk (pc2 := 91) (L2 := [.int (wI (Wd A dm nn) 32), .ref 103, .int (nI mm), .int y3, .int (nI k), .int (xc N xs (6 + k)), .int (wI (fun i => HL i jp) 32), .int (-1)]) (st2 := [.int (-1)]) (M2 := (A, G, PF)) (hs2 := []) (C := True) [(.iload 7, 0, 0)] [] (by decide +kernel) rfl trivial ?_
      refine go_ifz (cnd := .lt) (off := 34) 125 (by decide +kernel) (by decide) (fun _ => ?_) (fun (h : ¬ ((-1) : Int32) < 0) => absurd h (by decide))
      refine go_blk (pc2 := 131) (L2 := [.int (wI (Wd A dm nn) 32), .ref 103, .int (nI mm), .int y3, .int (nI k), .int (xc N xs (6 + k)), .int (wI (fun i => HL i jp) 32), .int (-1)]) (st2 := [.int ((wI (Wd A dm nn) 32) &&& ((wI (fun i => HL i jp) 32) ^^^ (-1)))]) (M2 := (A, G, PF)) (hs2 := []) (C := True) [(.iload_n 0, 0, 0), (.iload 6, 0, 0), (.iconst (-1), 0, 0), (.ixor, 0, 0), (.iand, 0, 0)] [] (by decide +kernel) rfl trivial ?_
      refine go_ifz (cnd := .eq) (off := 5) 136 (by decide +kernel) (by decide) (fun _ => ?_) (fun (h : ¬ ((wI (Wd A dm nn) 32) &&& ((wI (fun i => HL i jp) 32) ^^^ (-1))) = 0) => absurd h (fun zz => zz (sat_a hM hC (by omega) hjp ejp (by assumption))))
      refine go_blk (pc2 := 139) (L2 := [.int (wI (Wd A dm nn) 32), .ref 103, .int (nI mm), .int y3, .int ((nI k) + 1), .int (xc N xs (6 + k)), .int (wI (fun i => HL i jp) 32), .int (-1)]) (st2 := []) (M2 := (A, G, PF)) (hs2 := []) (C := True) [(.iinc 4 1, 0, 0)] [] (by decide +kernel) rfl trivial ?_
      refine go_goto (off := -126) 13 (by decide +kernel) (by decide) ?_
      exact go_as (ih (by omega) (.int (xc N xs (6 + k))) (.int (wI (fun i => HL i jp) 32)) (.int (-1))) rfl (by simp only [nI_1]) rfl
set_option maxRecDepth 100000 in
set_option maxHeartbeats 4000000 in
theorem s_X6_satisfied (l : Launch) (N : Nat) (hN : N < 2 ^ 31) (xs : Nat → Int32) (A : Nat → Nat → Int32) (G : Nat → Nat → Int64) (B : Nat → Nat → Int32) (mm P dm : Nat) (hM : Mm mm P dm) (nn : Nat) (hnn : nn < 4) (hC : Cla B A N xs mm nn) (hxn : ((xc N xs 0 >>> (2 &&& 31)) &&& 3) = nI nn) : SemR l (ro1 N xs) mX6_satisfied [.int (wI (Wd A dm nn) 32), .ref 103, .int (nI mm)] 27 (A, G, PF) 27 (pv 1 (A, G, PF)) := by
  refine sem_of_go (by decide) rfl (by decide) (by decide) rfl (Nat.le_of_ble_eq_true rfl) ?_
  show Go l (ro1 N xs) mX6_satisfied 27 (A, G, PF) 0 [.int (wI (Wd A dm nn) 32), .ref 103, .int (nI mm), .null, .null, .null, .null, .null] [] 27 (pv 1 (A, G, PF))
  refine go_blk (pc2 := 2) (L2 := [.int (wI (Wd A dm nn) 32), .ref 103, .int (nI mm), .null, .null, .null, .null, .null]) (st2 := [.int 0, .ref 103]) (M2 := (A, G, PF)) (hs2 := []) (C := True) [(.aload_n 1, 0, 0), (.iconst 0, 0, 0)] [] (by decide +kernel) rfl trivial ?_
  refine go_call (Y2 := mX6_cell) (n2 := 27) (st := []) [] [.ref 103, .int 0] ck_6_7 cwX6_cell rfl (by decide +kernel) rfl (fun _ => rfl) (fun h => absurd rfl h) (Nat.le_of_ble_eq_true rfl) (Or.inl rfl) (fun _ _ _ h => h) (s_X6_cell l N hN xs A G 0 (by decide) 0 rfl) (fun v M2 hp1 => ?_)
  obtain ⟨rfl, rfl⟩ := hp1
  show Go l (ro1 N xs) mX6_satisfied 27 (A, G, PF) 5 [.int (wI (Wd A dm nn) 32), .ref 103, .int (nI mm), .null, .null, .null, .null, .null] [.int (xc N xs 0)] 27 _
  refine go_blk (pc2 := 10) (L2 := [.int (wI (Wd A dm nn) 32), .ref 103, .int (nI mm), .int (((xc N xs 0) >>> (2 &&& 31)) &&& 3), .null, .null, .null, .null]) (st2 := []) (M2 := (A, G, PF)) (hs2 := []) (C := True) [(.iconst 2, 0, 0), (.ishr, 0, 0), (.iconst 3, 0, 0), (.iand, 0, 0), (.istore_n 3, 0, 0)] [] (by decide +kernel) rfl trivial ?_
  obtain ⟨y3, ey3⟩ : ∃ y : Int32, y = (((xc N xs 0) >>> (2 &&& 31)) &&& 3) := ⟨_, rfl⟩
  rw [← ey3]
  refine go_blk (pc2 := 13) (L2 := [.int (wI (Wd A dm nn) 32), .ref 103, .int (nI mm), .int y3, .int 0, .null, .null, .null]) (st2 := []) (M2 := (A, G, PF)) (hs2 := []) (C := True) [(.iconst 0, 0, 0), (.istore 4, 0, 0)] [] (by decide +kernel) rfl trivial ?_
  exact lp_X6_satisfied l N hN xs A G B mm P dm hM nn hnn hC y3 (ey3.trans hxn) 0 (by omega) _ _ _
end
section
/-! ===== the greatest value over cells, as a fraction ===== -/
def geV (B : Nat → Nat → Int32) (a b c : Int32) (x w : Int) (n : Nat) : Prop := x * dn (cC B n) ≤ nm a b c (cC B n) * w
def Rx (B : Nat → Nat → Int32) (a b c : Int32) (cnt : Nat) (x w : Int) (s p : Nat) : Prop := (∃ n, n < cnt ∧ (Fts B s p n ∧ geV B a b c x w n)) ∧ SidS B s p (vC B) (fun n => Fts B s p n ∧ geV B a b c x w n) cnt
def Bd (x w : Int) : Prop := 0 < w ∧ w ≤ 4374 ∧ x.natAbs ≤ 2361960
def Mx (B : Nat → Nat → Int32) (a b c : Int32) (cnt : Nat) (K : Nat → Nat → Prop) (x w : Int) : Prop := Bd x w ∧ (∃ s p n, K s p ∧ n < cnt ∧ Fts B s p n ∧ geV B a b c x w n) ∧ ∀ s p n, K s p → n < cnt → Fts B s p n → nm a b c (cC B n) * w ≤ x * dn (cC B n)
def Tp (B : Nat → Nat → Int32) (a b c : Int32) (cnt : Nat) (K : Nat → Nat → Prop) (how : Int32) (up dw : Int64) : Prop :=
  ((∀ s p, K s p → ∀ n, n < cnt → ¬ Fts B s p n) ∧ how = 0 ∧ up = 0 ∧ dw = 0) ∨ ∃ x w, Mx B a b c cnt K x w ∧ up = Int64.ofInt x ∧ dw = Int64.ofInt w ∧ (how = 1 ∨ how = 2) ∧ (how = 2 ↔ ∃ s p, K s p ∧ Rx B a b c cnt x w s p)
theorem le_c {a b g : Int} (hg : 0 < g) : a * g ≤ b * g ↔ a ≤ b := ⟨fun h => Int.le_of_mul_le_mul_right h hg, fun h => Int.mul_le_mul_of_nonneg_right h (Int.le_of_lt hg)⟩
theorem Rx_c {B : Nat → Nat → Int32} {a b c : Int32} {cnt : Nat} {x w x2 w2 : Int} (h : ∀ n, n < cnt → (geV B a b c x w n ↔ geV B a b c x2 w2 n)) (s p : Nat) : Rx B a b c cnt x w s p ↔ Rx B a b c cnt x2 w2 s p := by
  unfold Rx
  refine and_congr ⟨fun ⟨n, h1, h2, h3⟩ => ⟨n, h1, h2, (h n h1).mp h3⟩, fun ⟨n, h1, h2, h3⟩ => ⟨n, h1, h2, (h n h1).mpr h3⟩⟩ (SidS_P fun n hn => and_congr Iff.rfl (h n hn))
theorem tp_of {B : Nat → Nat → Int32} {a b c : Int32} (hf : f9 a ∧ f9 b ∧ f9 c) {cnt : Nat} (hB : ∀ n, n < cnt → CB (cC B n)) {K : Nat → Nat → Prop} {t : Tr} (hP : PkI B a b c cnt K t) {h0 w0 : Nat} (hN : NumOk t h0 w0) : Tp B a b c cnt K (mov t) (rdo t h0 w0) (rdu t h0 w0) := by
  rcases hP with ⟨h1, rfl⟩ | ⟨m, g1, ⟨s, p, k0, k1⟩, g3, g4, g5, g6, g7⟩
  · obtain ⟨z1, z2⟩ := rd_0 hN
    exact Or.inl ⟨h1, by decide, z1, z2⟩
  · have bm := hB m g1
    obtain ⟨z1, z2⟩ := rd_of hf bm hN g3 g4
    have bq := nm_b hf bm
    have q1 := bm.1
    have q2 := bm.2.1
    obtain ⟨X, hX⟩ : ∃ X, X = nm a b c (cC B m) := ⟨_, rfl⟩
    obtain ⟨D, hD⟩ : ∃ D, D = dn (cC B m) := ⟨_, rfl⟩
    obtain ⟨g, hg⟩ : ∃ g, g = (nm a b c (cC B m)).natAbs.gcd (dn (cC B m)).toNat := ⟨_, rfl⟩
    have gq : 0 < g := by rw [hg]; exact Nat.gcd_pos_of_pos_right _ (by omega)
    have gq2 : g ≤ (dn (cC B m)).toNat := by rw [hg]; exact Nat.gcd_le_right _ (by omega)
    have dX : (g : Int) ∣ X := by rw [hg, hX]; exact Int.ofNat_dvd_left.mpr (Nat.gcd_dvd_left _ _)
    have dD : (g : Int) ∣ D := by
      have : (g : Int) ∣ ((dn (cC B m)).toNat : Int) := by rw [hg]; exact Int.ofNat_dvd.mpr (Nat.gcd_dvd_right _ _)
      rw [show ((dn (cC B m)).toNat : Int) = dn (cC B m) by omega, ← hD] at this
      exact this
    have eX : X = X / (g : Int) * g := (Int.ediv_mul_cancel dX).symm
    have eD : D = D / (g : Int) * g := (Int.ediv_mul_cancel dD).symm
    rw [← hg] at z1 z2
    unfold N6 at z1
    unfold W6 at z2
    rw [← hX] at z1 bq
    rw [← hD] at z2 q1 q2
    rw [← hD] at gq2
    rw [div64 gq eX bq (by omega)] at z1
    rw [div64 gq eD (by omega) (by omega)] at z2
    obtain ⟨x, hx⟩ : ∃ x, x = X / (g : Int) := ⟨_, rfl⟩
    obtain ⟨w, hw⟩ : ∃ w, w = D / (g : Int) := ⟨_, rfl⟩
    rw [← hx] at z1 eX
    rw [← hw] at z2 eD
    have hgp : (0 : Int) < (g : Int) := by omega
    have w0 : 0 < w := by
      refine Classical.byContradiction fun z => ?_
      have : w * (g : Int) ≤ 0 * (g : Int) := (le_c hgp).mpr (by omega)
      omega
    have w1 : w ≤ D := by
      have : w * 1 ≤ w * (g : Int) := Int.mul_le_mul_of_nonneg_left (by omega) (by omega)
      omega
    have xb : x.natAbs ≤ X.natAbs := by
      have e : X.natAbs = x.natAbs * g := by rw [eX, Int.natAbs_mul, Int.natAbs_natCast]
      rw [e]
      exact Nat.le_mul_of_pos_right _ gq
    have hge : ∀ n, geV B a b c x w n ↔ lq a b c (cC B m) (cC B n) := fun n => by
      unfold geV lq
      rw [← hX, ← hD, ← le_c hgp, show x * dn (cC B n) * (g : Int) = X * dn (cC B n) by rw [eX]; grind, show nm a b c (cC B n) * w * (g : Int) = nm a b c (cC B n) * D by rw [eD]; grind]
    refine Or.inr ⟨x, w, ⟨⟨w0, by omega, by omega⟩, ⟨s, p, m, k0, g1, k1, (hge m).mpr (lq_rf _ _ _ _)⟩, fun s p n e1 e2 e3 => ?_⟩, z1, z2, ?_, ?_⟩
    · have := g5 s p e1 n e2 e3
      unfold lq at this
      rw [← hX, ← hD] at this
      rw [← le_c hgp, show nm a b c (cC B n) * w * (g : Int) = nm a b c (cC B n) * D by rw [eD]; grind, show x * dn (cC B n) * (g : Int) = X * dn (cC B n) by rw [eX]; grind]
      exact this
    · unfold mov
      rw [if_pos (by rw [g4]; exact W6_pos bm)]
      split
      · exact Or.inl rfl
      · exact Or.inr rfl
    · have e1 : mov t = 2 ↔ t.2.2 = 1 := by
        unfold mov
        rw [if_pos (by rw [g4]; exact W6_pos bm)]
        rcases g6 with q | q
        · rw [if_pos q, q]
          exact ⟨fun z => absurd z (by decide), fun z => absurd z (by decide)⟩
        · rw [if_neg (by rw [q]; decide), q]
          exact ⟨fun _ => rfl, fun _ => rfl⟩
      rw [e1, g7]
      have e2 : ∀ s p, Rea B a b c cnt m s p ↔ Rx B a b c cnt x w s p := fun s p => by
        unfold Rea Rx
        exact and_congr ⟨fun ⟨n, h1, h2, h3⟩ => ⟨n, h1, h2, (hge n).mpr h3⟩, fun ⟨n, h1, h2, h3⟩ => ⟨n, h1, h2, (hge n).mp h3⟩⟩ (SidS_P fun n hn => and_congr Iff.rfl (hge n).symm)
      exact ⟨fun ⟨s, p, h1, h2⟩ => ⟨s, p, h1, (e2 s p).mp h2⟩, fun ⟨s, p, h1, h2⟩ => ⟨s, p, h1, (e2 s p).mpr h2⟩⟩
section MX
variable {B : Nat → Nat → Int32} {a b c : Int32} {cnt : Nat} {K K2 : Nat → Nat → Prop} {x w x2 w2 : Int}
theorem mx_z (hf : f9 a ∧ f9 b ∧ f9 c) (hB : ∀ n, n < cnt → CB (cC B n)) (h : Mx B a b c cnt K x w) {t : Tr} (hP : PkI B a b c cnt K t) {z : Int} (hz : z.natAbs ≤ 200) : t.1 ≤ Int64.ofInt z * t.2.1 ↔ x ≤ z * w := by
  obtain ⟨⟨b1, b2, b3⟩, ⟨s, p, n, e1, e2, e3, e4⟩, h3⟩ := h
  rcases hP with ⟨h1, -⟩ | ⟨m, g1, ⟨s1, p1, k0, k1⟩, g3, g4, g5, -, -⟩
  · exact absurd e3 (h1 s p e1 n e2)
  · have bm := hB m g1
    have bn := hB n e2
    have i1 := h3 s1 p1 m k0 g1 k1
    have i2 := g5 s p e1 n e2 e3
    have bq := nm_b hf bm
    have d1 := bm.1
    have d2 := bm.2.1
    have d3 := bn.1
    unfold geV at e4
    unfold lq at i2
    rw [g3, g4]
    unfold N6 W6
    rw [← Int64.ofInt_mul, Int64.le_iff_toInt_le, s64 bq (by decide)]
    generalize nm a b c (cC B m) = X at *
    generalize dn (cC B m) = D at *
    generalize nm a b c (cC B n) = Y at *
    generalize dn (cC B n) = E at *
    have zD : (z * D).natAbs ≤ 200 * 4374 := by
      rw [Int.natAbs_mul]
      exact Nat.mul_le_mul hz (by omega)
    rw [s64 zD (by decide)]
    have hE : x * D ≤ X * w := by
      rw [← le_c d3]
      have f1 : x * E * D ≤ Y * w * D := (le_c d1).mpr e4
      have f2 : Y * D * w ≤ X * E * w := (le_c b1).mpr i2
      have f3 : x * E * D = x * D * E := by grind
      have f4 : Y * w * D = Y * D * w := by grind
      have f5 : X * E * w = X * w * E := by grind
      omega
    have hq : X * w = x * D := by omega
    rw [← le_c b1, hq, show z * D * w = z * w * D by grind, le_c d1]
theorem mx_le (hB : ∀ n, n < cnt → CB (cC B n)) (h : Mx B a b c cnt K x w) (h2 : Mx B a b c cnt K2 x2 w2) (hs : ∀ s p, K2 s p → K s p) : x2 * w ≤ x * w2 := by
  obtain ⟨⟨b1, -, -⟩, -, h3⟩ := h
  obtain ⟨⟨c1, -, -⟩, ⟨s, p, n, e1, e2, e3, e4⟩, -⟩ := h2
  have d3 := (hB n e2).1
  have i1 := h3 s p n (hs s p e1) e2 e3
  unfold geV at e4
  generalize nm a b c (cC B n) = Y at *
  generalize dn (cC B n) = E at *
  rw [← le_c d3]
  have f1 : x2 * E * w ≤ Y * w2 * w := (le_c b1).mpr e4
  have f2 : Y * w * w2 ≤ x * E * w2 := (le_c c1).mpr i1
  have f3 : x2 * E * w = x2 * w * E := by grind
  have f4 : Y * w2 * w = Y * w * w2 := by grind
  have f5 : x * E * w2 = x * w2 * E := by grind
  omega
theorem ge_c (b1 : 0 < w) (c1 : 0 < w2) (e : x2 * w = x * w2) (n : Nat) : geV B a b c x2 w2 n ↔ geV B a b c x w n := by
  unfold geV
  generalize nm a b c (cC B n) = Y at *
  generalize dn (cC B n) = E at *
  rw [← le_c b1, ← le_c (a := x * E) c1, show x2 * E * w = x * w2 * E by rw [← e]; grind, show x * E * w2 = x * w2 * E by grind, show Y * w2 * w = Y * w * w2 by grind]
theorem mx_eq (hB : ∀ n, n < cnt → CB (cC B n)) (h : Mx B a b c cnt K x w) (h2 : Mx B a b c cnt K2 x2 w2) (hs : ∀ s p, K2 s p → K s p) : x2 * w = x * w2 ↔ ∃ s p n, K2 s p ∧ n < cnt ∧ Fts B s p n ∧ geV B a b c x w n := by
  have hle := mx_le hB h h2 hs
  constructor
  · intro e
    obtain ⟨s, p, n, e1, e2, e3, e4⟩ := h2.2.1
    exact ⟨s, p, n, e1, e2, e3, (ge_c h.1.1 h2.1.1 e n).mp e4⟩
  · rintro ⟨s, p, n, e1, e2, e3, e4⟩
    have i1 := h2.2.2 s p n e1 e2 e3
    have b1 := h.1.1
    have c1 := h2.1.1
    have d3 := (hB n e2).1
    unfold geV at e4
    generalize nm a b c (cC B n) = Y at *
    generalize dn (cC B n) = E at *
    have : x * w2 ≤ x2 * w := by
      rw [← le_c d3]
      have f1 : x * E * w2 ≤ Y * w * w2 := (le_c c1).mpr e4
      have f2 : Y * w2 * w ≤ x2 * E * w := (le_c b1).mpr i1
      have f3 : x * E * w2 = x * w2 * E := by grind
      have f4 : Y * w2 * w = Y * w * w2 := by grind
      have f5 : x2 * E * w = x2 * w * E := by grind
      omega
    omega
theorem cmp_I (hb : Bd x w) (hb2 : Bd x2 w2) : cmpI (Int64.ofInt x2) (Int64.ofInt w2) (Int64.ofInt x) (Int64.ofInt w) = if x2 * w < x * w2 then -1 else if x * w2 < x2 * w then 1 else 0 := by
  obtain ⟨b1, b2, b3⟩ := hb
  obtain ⟨c1, c2, c3⟩ := hb2
  have g1 : (x2 * w).natAbs ≤ 2361960 * 4374 := mulb c3 (by omega)
  have g2 : (x * w2).natAbs ≤ 2361960 * 4374 := mulb b3 (by omega)
  unfold cmpI
  simp only [← Int64.ofInt_mul, Int64.lt_iff_toInt_lt, s64 g1 (by decide), s64 g2 (by decide)]
/-- the value of the negated form, taken negative, isn't above -/
theorem mx_neg (hf : f9 a ∧ f9 b ∧ f9 c) (hB : ∀ n, n < cnt → CB (cC B n)) (h : Mx B a b c cnt K x w) (h2 : Mx B (-a) (-b) (-c) cnt K x2 w2) : (-x2) * w ≤ x * w2 := by
  obtain ⟨⟨b1, -, -⟩, -, h3⟩ := h
  obtain ⟨⟨c1, -, -⟩, ⟨s, p, n, e1, e2, e3, e4⟩, h5⟩ := h2
  have d3 := (hB n e2).1
  have i1 := h3 s p n e1 e2 e3
  have i2 := h5 s p n e1 e2 e3
  have ni : ∀ v : Int32, f9 v → (-v).toInt = - v.toInt := fun v hv => by
    have := f9_int hv
    rw [Int32.toInt_neg]
    apply Int.bmod_eq_of_le <;> omega
  have en : nm (-a) (-b) (-c) (cC B n) = - nm a b c (cC B n) := by
    unfold nm
    rw [ni a hf.1, ni b hf.2.1, ni c hf.2.2]
    grind
  rw [en] at i2
  generalize nm a b c (cC B n) = Y at *
  generalize dn (cC B n) = E at *
  rw [← le_c d3]
  have f1 : -Y * w2 * w ≤ x2 * E * w := (le_c b1).mpr i2
  have f2 : Y * w * w2 ≤ x * E * w2 := (le_c c1).mpr i1
  have f3 : -x2 * w * E = -(x2 * E * w) := by grind
  have f4 : -Y * w2 * w = -(Y * w * w2) := by grind
  have f5 : x * E * w2 = x * w2 * E := by grind
  omega
end MX
/-- floor and ceiling -/
def Flo (x w f : Int) : Prop := f * w ≤ x ∧ x < (f + 1) * w
theorem flo_b {x w f : Int} (hb : Bd x w) (h : Flo x w f) : f.natAbs ≤ 2361961 := by
  obtain ⟨b1, b2, b3⟩ := hb
  obtain ⟨h1, h2⟩ := h
  rcases Int.lt_or_le 0 f with q | q
  · have : f * 1 ≤ f * w := Int.mul_le_mul_of_nonneg_left (by omega) (by omega)
    omega
  · rcases Int.lt_or_le f 0 with q2 | q2
    · have : (-(f + 1)) * 1 ≤ (-(f + 1)) * w := Int.mul_le_mul_of_nonneg_left (by omega) (by omega)
      have e : (-(f + 1)) * w = -((f + 1) * w) := by grind
      omega
    · omega
theorem div_o {X w : Int} (h0 : 0 ≤ X) (hb : X.natAbs ≤ 2 ^ 30) (hw : 0 < w) (hw2 : w ≤ 4374) : Int64.ofInt X / Int64.ofInt w = Int64.ofInt (X / w) := by
  apply Int64.toInt_inj.mp
  have e1 : (Int64.ofInt X).toInt = X := s64 hb (by decide)
  have e2 : (Int64.ofInt w).toInt = w := s64 (m := 4374) (by omega) (by decide)
  rw [Int64.toInt_div, e1, e2, Int.tdiv_eq_ediv_of_nonneg h0, Int64.toInt_ofInt]
  try rfl
theorem o64_lt {x y : Int} (hx : x.natAbs ≤ 2 ^ 40) (hy : y.natAbs ≤ 2 ^ 40) : Int64.ofInt x < Int64.ofInt y ↔ x < y := by
  rw [Int64.lt_iff_toInt_lt, s64 hx (by decide), s64 hy (by decide)]
theorem o64_eq {x y : Int} (hx : x.natAbs ≤ 2 ^ 40) (hy : y.natAbs ≤ 2 ^ 40) : Int64.ofInt x = Int64.ofInt y ↔ x = y := by
  rw [← Int64.toInt_inj, s64 hx (by decide), s64 hy (by decide)]
theorem flo_1 {x w : Int} (hb : Bd x w) (h : ¬ Int64.ofInt x < 0) : ∃ f, Int64.ofInt x / Int64.ofInt w = Int64.ofInt f ∧ Flo x w f := by
  obtain ⟨b1, b2, b3⟩ := hb
  have h0 : 0 ≤ x := by
    have := (not_congr (o64_lt (x := x) (y := 0) (by omega) (by decide))).mp h
    omega
  refine ⟨x / w, div_o h0 (by omega) b1 b2, Int.ediv_mul_le x (by omega), ?_⟩
  exact Int.lt_ediv_add_one_mul_self x b1
theorem flo_2 {x w : Int} (hb : Bd x w) (h : Int64.ofInt x < 0) : ∃ f, -((((-(Int64.ofInt x)) + Int64.ofInt w) - 1) / Int64.ofInt w) = Int64.ofInt f ∧ Flo x w f := by
  obtain ⟨b1, b2, b3⟩ := hb
  have h0 : x < 0 := (o64_lt (x := x) (y := 0) (by omega) (by decide)).mp h
  have e : ((-(Int64.ofInt x)) + Int64.ofInt w) - 1 = Int64.ofInt (-x + w - 1) := by
    rw [Int64.ofInt_sub, Int64.ofInt_add, Int64.ofInt_neg]
    rfl
  have h1 := Int.ediv_mul_le (-x + w - 1) (b := w) (by omega)
  have h2 := Int.lt_ediv_add_one_mul_self (-x + w - 1) b1
  refine ⟨-((-x + w - 1) / w), ?_, ?_⟩
  · rw [e, div_o (by omega) (by omega) b1 b2, Int64.ofInt_neg]
  · generalize (-x + w - 1) / w = q at *
    have e1 : (q + 1) * w = q * w + w := by grind
    have e2 : -q * w = -(q * w) := by grind
    have e3 : (-q + 1) * w = -(q * w) + w := by grind
    constructor <;> omega
theorem flo_c {x w f : Int} (hb : Bd x w) (h : Flo x w f) : Int64.ofInt f * Int64.ofInt w = Int64.ofInt x ↔ f * w = x := by
  have hf := flo_b hb h
  obtain ⟨b1, b2, b3⟩ := hb
  have g1 : (f * w).natAbs ≤ 2361961 * 4374 := mulb hf (by omega)
  rw [← Int64.ofInt_mul]
  exact o64_eq (Nat.le_trans g1 (by decide)) (by omega)
theorem o32 {z : Int} (h : z.natAbs ≤ 2 ^ 30) : (Int64.ofInt z).toInt32 = Int32.ofInt z := by
  apply Int32.toInt_inj.mp
  rw [Int64.toInt_toInt32, s64 h (by decide), Int32.toInt_ofInt]
  try rfl
theorem o3264 {z : Int} (h : z.natAbs ≤ 2 ^ 30) : (Int32.ofInt z).toInt64 = Int64.ofInt z := by
  rw [to64, small_toInt h (by decide)]
theorem o32_f99 {z : Int} (h : -99 ≤ z ∧ z ≤ 99) : f99 (Int32.ofInt z) := by
  have e : (Int32.ofInt z).toInt = z := small_toInt (m := 99) (by omega) (by decide)
  constructor
  · rw [Int32.le_iff_toInt_le, e]
    exact h.1
  · rw [Int32.le_iff_toInt_le, e]
    exact h.2
end
