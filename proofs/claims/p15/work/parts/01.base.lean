-- ===== PART A: goes FIRST, ahead of the names: the tables' words, and 'selects' of the private methods out of them =====
/-- a private method of a class that the tables say can be made, by its rows of tables_1 -/
def lw_okq (q : MethodName × Nat) : Prop := (q.1.cls ≠ "java/lang/invoke/MethodHandle" ∧ q.1.cls ≠ "java/lang/invoke/VarHandle") ∧ Cond.instantiable q.1.cls q.2 ∈ tables_1 ∧ Cond.privateMethod q.1 ∈ tables_1 ∧ Cond.instanceMethod q.1 ∈ tables_1
theorem lw_p0 : lw_okq (⟨"RationDesk$Corners", "addTo", "(III)V"⟩, 10) := ⟨⟨by decide +kernel, by decide +kernel⟩, List.mem_of_getElem? (i := 72) (by decide +kernel), List.mem_of_getElem? (i := 80) (by decide +kernel), List.mem_of_getElem? (i := 81) (by decide +kernel)⟩
theorem lw_p1 : lw_okq (⟨"RationDesk", "refresh", "()V"⟩, 8) := ⟨⟨by decide +kernel, by decide +kernel⟩, List.mem_of_getElem? (i := 9) (by decide +kernel), List.mem_of_getElem? (i := 197) (by decide +kernel), List.mem_of_getElem? (i := 198) (by decide +kernel)⟩
theorem lw_p2 : lw_okq (⟨"RationDesk$Corners", "meet", "(III)V"⟩, 10) := ⟨⟨by decide +kernel, by decide +kernel⟩, List.mem_of_getElem? (i := 72) (by decide +kernel), List.mem_of_getElem? (i := 205) (by decide +kernel), List.mem_of_getElem? (i := 206) (by decide +kernel)⟩
theorem lw_p3 : lw_okq (⟨"RationDesk$Corners", "keep", "(IIII)V"⟩, 10) := ⟨⟨by decide +kernel, by decide +kernel⟩, List.mem_of_getElem? (i := 72) (by decide +kernel), List.mem_of_getElem? (i := 218) (by decide +kernel), List.mem_of_getElem? (i := 219) (by decide +kernel)⟩
theorem lw_p4 : lw_okq (⟨"RationDesk$Corners", "findSides", "(IIII)I"⟩, 10) := ⟨⟨by decide +kernel, by decide +kernel⟩, List.mem_of_getElem? (i := 72) (by decide +kernel), List.mem_of_getElem? (i := 222) (by decide +kernel), List.mem_of_getElem? (i := 223) (by decide +kernel)⟩
theorem lw_p5 : lw_okq (⟨"RationDesk$Cells", "rebuildCell", "(IILRationDesk$Atoms;LRationDesk$Corners;)V"⟩, 3) := ⟨⟨by decide +kernel, by decide +kernel⟩, List.mem_of_getElem? (i := 117) (by decide +kernel), List.mem_of_getElem? (i := 236) (by decide +kernel), List.mem_of_getElem? (i := 237) (by decide +kernel)⟩
theorem lw_p6 : lw_okq (⟨"RationDesk$Atoms", "contradict", "(IIII)Z"⟩, 8) := ⟨⟨by decide +kernel, by decide +kernel⟩, List.mem_of_getElem? (i := 17) (by decide +kernel), List.mem_of_getElem? (i := 275) (by decide +kernel), List.mem_of_getElem? (i := 276) (by decide +kernel)⟩
theorem lw_p7 : lw_okq (⟨"RationDesk", "isWorld", "(I)Z"⟩, 8) := ⟨⟨by decide +kernel, by decide +kernel⟩, List.mem_of_getElem? (i := 9) (by decide +kernel), List.mem_of_getElem? (i := 287) (by decide +kernel), List.mem_of_getElem? (i := 288) (by decide +kernel)⟩
theorem lw_p8 : lw_okq (⟨"RationDesk$ClauseStack", "isSatisfiedBy", "(II)Z"⟩, 4) := ⟨⟨by decide +kernel, by decide +kernel⟩, List.mem_of_getElem? (i := 53) (by decide +kernel), List.mem_of_getElem? (i := 307) (by decide +kernel), List.mem_of_getElem? (i := 308) (by decide +kernel)⟩
theorem lw_p9 : lw_okq (⟨"RationDesk$Atoms", "setPlane", "(IIIII)V"⟩, 8) := ⟨⟨by decide +kernel, by decide +kernel⟩, List.mem_of_getElem? (i := 17) (by decide +kernel), List.mem_of_getElem? (i := 332) (by decide +kernel), List.mem_of_getElem? (i := 333) (by decide +kernel)⟩
theorem lw_p10 : lw_okq (⟨"RationDesk", "isDefined", "(I)Z"⟩, 8) := ⟨⟨by decide +kernel, by decide +kernel⟩, List.mem_of_getElem? (i := 9) (by decide +kernel), List.mem_of_getElem? (i := 361) (by decide +kernel), List.mem_of_getElem? (i := 362) (by decide +kernel)⟩
theorem lw_p11 : lw_okq (⟨"RationDesk", "isDefinedOrAbsent", "(I)Z"⟩, 8) := ⟨⟨by decide +kernel, by decide +kernel⟩, List.mem_of_getElem? (i := 9) (by decide +kernel), List.mem_of_getElem? (i := 365) (by decide +kernel), List.mem_of_getElem? (i := 366) (by decide +kernel)⟩
theorem lw_p12 : lw_okq (⟨"RationDesk", "climb", "(III)V"⟩, 8) := ⟨⟨by decide +kernel, by decide +kernel⟩, List.mem_of_getElem? (i := 9) (by decide +kernel), List.mem_of_getElem? (i := 428) (by decide +kernel), List.mem_of_getElem? (i := 429) (by decide +kernel)⟩
theorem lw_p13 : lw_okq (⟨"RationDesk", "climbWorld", "(I)V"⟩, 8) := ⟨⟨by decide +kernel, by decide +kernel⟩, List.mem_of_getElem? (i := 9) (by decide +kernel), List.mem_of_getElem? (i := 436) (by decide +kernel), List.mem_of_getElem? (i := 437) (by decide +kernel)⟩
theorem lw_p14 : lw_okq (⟨"RationDesk$Peak", "climbCell", "(LRationDesk$Corners;I)V"⟩, 9) := ⟨⟨by decide +kernel, by decide +kernel⟩, List.mem_of_getElem? (i := 134) (by decide +kernel), List.mem_of_getElem? (i := 454) (by decide +kernel), List.mem_of_getElem? (i := 455) (by decide +kernel)⟩
theorem lw_p15 : lw_okq (⟨"RationDesk$Peak", "climbCorner", "(JJI)V"⟩, 9) := ⟨⟨by decide +kernel, by decide +kernel⟩, List.mem_of_getElem? (i := 134) (by decide +kernel), List.mem_of_getElem? (i := 474) (by decide +kernel), List.mem_of_getElem? (i := 475) (by decide +kernel)⟩
def lw_privs_1 : List (MethodName × Nat) := [(⟨"RationDesk$Corners", "addTo", "(III)V"⟩, 10), (⟨"RationDesk", "refresh", "()V"⟩, 8), (⟨"RationDesk$Corners", "meet", "(III)V"⟩, 10), (⟨"RationDesk$Corners", "keep", "(IIII)V"⟩, 10), (⟨"RationDesk$Corners", "findSides", "(IIII)I"⟩, 10), (⟨"RationDesk$Cells", "rebuildCell", "(IILRationDesk$Atoms;LRationDesk$Corners;)V"⟩, 3), (⟨"RationDesk$Atoms", "contradict", "(IIII)Z"⟩, 8), (⟨"RationDesk", "isWorld", "(I)Z"⟩, 8), (⟨"RationDesk$ClauseStack", "isSatisfiedBy", "(II)Z"⟩, 4), (⟨"RationDesk$Atoms", "setPlane", "(IIIII)V"⟩, 8), (⟨"RationDesk", "isDefined", "(I)Z"⟩, 8), (⟨"RationDesk", "isDefinedOrAbsent", "(I)Z"⟩, 8), (⟨"RationDesk", "climb", "(III)V"⟩, 8), (⟨"RationDesk", "climbWorld", "(I)V"⟩, 8), (⟨"RationDesk$Peak", "climbCell", "(LRationDesk$Corners;I)V"⟩, 9), (⟨"RationDesk$Peak", "climbCorner", "(JJI)V"⟩, 9)]
theorem lw_r1 : ∀ q ∈ lw_privs_1, lw_okq q := List.forall_mem_cons.mpr ⟨lw_p0, List.forall_mem_cons.mpr ⟨lw_p1, List.forall_mem_cons.mpr ⟨lw_p2, List.forall_mem_cons.mpr ⟨lw_p3, List.forall_mem_cons.mpr ⟨lw_p4, List.forall_mem_cons.mpr ⟨lw_p5, List.forall_mem_cons.mpr ⟨lw_p6, List.forall_mem_cons.mpr ⟨lw_p7, List.forall_mem_cons.mpr ⟨lw_p8, List.forall_mem_cons.mpr ⟨lw_p9, List.forall_mem_cons.mpr ⟨lw_p10, List.forall_mem_cons.mpr ⟨lw_p11, List.forall_mem_cons.mpr ⟨lw_p12, List.forall_mem_cons.mpr ⟨lw_p13, List.forall_mem_cons.mpr ⟨lw_p14, List.forall_mem_cons.mpr ⟨lw_p15, fun _ h => absurd h List.not_mem_nil⟩⟩⟩⟩⟩⟩⟩⟩⟩⟩⟩⟩⟩⟩⟩⟩
def lw_privs : List (MethodName × Nat) := lw_privs_1
def lw_tbl : List Cond := k2_sels lw_privs ++ tables_1
theorem lw_privs_ok : ∀ q ∈ lw_privs, lw_okq q := lw_r1
-- ===== names, fields: the rows that the claim's own NAMES text prints =====
def RX0 : String := "RationDesk$Atoms"
def TX0 : u_T := fun k => match k with
  | 0 => ("RationDesk$Atoms", "kind", "[I", true)
  | 1 => ("RationDesk$Atoms", "a", "[I", true)
  | 2 => ("RationDesk$Atoms", "b", "[I", true)
  | 3 => ("RationDesk$Atoms", "c", "[I", true)
  | 4 => ("RationDesk$Atoms", "d", "[I", true)
  | 5 => ("RationDesk$Atoms", "argument", "[I", true)
  | 6 => ("RationDesk$Atoms", "value", "[I", true)
  | _ => ("RationDesk$Atoms", "defined", "I", false)
def tyX0 : Nat → FieldType := fun k => match k with
  | 0 => .array .int
  | 1 => .array .int
  | 2 => .array .int
  | 3 => .array .int
  | 4 => .array .int
  | 5 => .array .int
  | 6 => .array .int
  | _ => .int
theorem nmX0 : ∀ a, a < 8 → ∀ b, b < 8 → a ≠ b → (TX0 a).2.1 ≠ (TX0 b).2.1 := by decide +kernel
theorem tyX0_ok : ∀ k, k < 8 → parseFieldDescriptor (TX0 k).2.2.1 = some (tyX0 k) := by decide +kernel
def RX1 : String := "RationDesk$Cells"
def TX1 : u_T := fun k => match k with
  | 0 => ("RationDesk$Cells", "open", "[Z", true)
  | 1 => ("RationDesk$Cells", "needed", "[I", true)
  | _ => ("RationDesk$Cells", "sought", "[I", true)
def tyX1 : Nat → FieldType := fun k => match k with
  | 0 => .array .boolean
  | 1 => .array .int
  | _ => .array .int
theorem nmX1 : ∀ a, a < 3 → ∀ b, b < 3 → a ≠ b → (TX1 a).2.1 ≠ (TX1 b).2.1 := by decide +kernel
theorem tyX1_ok : ∀ k, k < 3 → parseFieldDescriptor (TX1 k).2.2.1 = some (tyX1 k) := by decide +kernel
def RX2 : String := "RationDesk$ClauseStack"
def TX2 : u_T := fun k => match k with
  | 0 => ("RationDesk$ClauseStack", "literals", "[I", true)
  | 1 => ("RationDesk$ClauseStack", "marks", "[I", true)
  | 2 => ("RationDesk$ClauseStack", "size", "I", false)
  | _ => ("RationDesk$ClauseStack", "level", "I", false)
def tyX2 : Nat → FieldType := fun k => match k with
  | 0 => .array .int
  | 1 => .array .int
  | 2 => .int
  | _ => .int
theorem nmX2 : ∀ a, a < 4 → ∀ b, b < 4 → a ≠ b → (TX2 a).2.1 ≠ (TX2 b).2.1 := by decide +kernel
theorem tyX2_ok : ∀ k, k < 4 → parseFieldDescriptor (TX2 k).2.2.1 = some (tyX2 k) := by decide +kernel
def RX3 : String := "RationDesk$Corners"
def TX3 : u_T := fun k => match k with
  | 0 => ("RationDesk$Corners", "a", "[I", true)
  | 1 => ("RationDesk$Corners", "b", "[I", true)
  | 2 => ("RationDesk$Corners", "c", "[I", true)
  | 3 => ("RationDesk$Corners", "d", "[I", true)
  | 4 => ("RationDesk$Corners", "x", "[I", true)
  | 5 => ("RationDesk$Corners", "y", "[I", true)
  | 6 => ("RationDesk$Corners", "z", "[I", true)
  | 7 => ("RationDesk$Corners", "divisor", "[I", true)
  | 8 => ("RationDesk$Corners", "sides", "[I", true)
  | _ => ("RationDesk$Corners", "count", "I", false)
def tyX3 : Nat → FieldType := fun k => match k with
  | 0 => .array .int
  | 1 => .array .int
  | 2 => .array .int
  | 3 => .array .int
  | 4 => .array .int
  | 5 => .array .int
  | 6 => .array .int
  | 7 => .array .int
  | 8 => .array .int
  | _ => .int
theorem nmX3 : ∀ a, a < 10 → ∀ b, b < 10 → a ≠ b → (TX3 a).2.1 ≠ (TX3 b).2.1 := by decide +kernel
theorem tyX3_ok : ∀ k, k < 10 → parseFieldDescriptor (TX3 k).2.2.1 = some (tyX3 k) := by decide +kernel
def RX4 : String := "RationDesk$Peak"
def TX4 : u_T := fun k => match k with
  | 0 => ("RationDesk$Peak", "a", "I", false)
  | 1 => ("RationDesk$Peak", "b", "I", false)
  | 2 => ("RationDesk$Peak", "c", "I", false)
  | 3 => ("RationDesk$Peak", "over", "J", false)
  | 4 => ("RationDesk$Peak", "under", "J", false)
  | 5 => ("RationDesk$Peak", "reached", "Z", false)
  | 6 => ("RationDesk$Peak", "cellOver", "J", false)
  | 7 => ("RationDesk$Peak", "cellUnder", "J", false)
  | _ => ("RationDesk$Peak", "cellSides", "I", false)
def tyX4 : Nat → FieldType := fun k => match k with
  | 0 => .int
  | 1 => .int
  | 2 => .int
  | 3 => .long
  | 4 => .long
  | 5 => .boolean
  | 6 => .long
  | 7 => .long
  | _ => .int
theorem nmX4 : ∀ a, a < 9 → ∀ b, b < 9 → a ≠ b → (TX4 a).2.1 ≠ (TX4 b).2.1 := by decide +kernel
theorem tyX4_ok : ∀ k, k < 9 → parseFieldDescriptor (TX4 k).2.2.1 = some (tyX4 k) := by decide +kernel
def RX5 : String := "RationDesk"
def TX5 : u_T := fun k => match k with
  | 0 => ("RationDesk", "atoms", "LRationDesk$Atoms;", true)
  | 1 => ("RationDesk", "clauses", "LRationDesk$ClauseStack;", true)
  | 2 => ("RationDesk", "corners", "LRationDesk$Corners;", true)
  | 3 => ("RationDesk", "cells", "LRationDesk$Cells;", true)
  | 4 => ("RationDesk", "peak", "LRationDesk$Peak;", true)
  | 5 => ("RationDesk", "stale", "Z", false)
  | 6 => ("RationDesk", "topNumerator", "J", false)
  | _ => ("RationDesk", "topDenominator", "J", false)
def tyX5 : Nat → FieldType := fun k => match k with
  | 0 => .object "RationDesk$Atoms"
  | 1 => .object "RationDesk$ClauseStack"
  | 2 => .object "RationDesk$Corners"
  | 3 => .object "RationDesk$Cells"
  | 4 => .object "RationDesk$Peak"
  | 5 => .boolean
  | 6 => .long
  | _ => .long
theorem nmX5 : ∀ a, a < 8 → ∀ b, b < 8 → a ≠ b → (TX5 a).2.1 ≠ (TX5 b).2.1 := by decide +kernel
theorem tyX5_ok : ∀ k, k < 8 → parseFieldDescriptor (TX5 k).2.2.1 = some (tyX5 k) := by decide +kernel
abbrev vwCl : List vw_C := [(RX0, TX0, 8), (RX1, TX1, 3), (RX2, TX2, 4), (RX3, TX3, 10), (RX4, TX4, 9), (RX5, TX5, 8)]
abbrev MT : Type := MethodName × ByteArray × Nat × Option FieldType × Nat × Nat × Nat
def RN : Nat → String := fun c => match c with
  | 0 => "RationDesk$Atoms"
  | 1 => "RationDesk$Cells"
  | 2 => "RationDesk$ClauseStack"
  | 3 => "RationDesk$Corners"
  | 4 => "RationDesk$Peak"
  | 5 => "RationDesk"
  | _ => "RationDeskLaw"
def TT : Nat → u_T := fun c => match c with
  | 0 => TX0
  | 1 => TX1
  | 2 => TX2
  | 3 => TX3
  | 4 => TX4
  | _ => TX5
def nf : Nat → Nat := fun c => match c with
  | 0 => 8
  | 1 => 3
  | 2 => 4
  | 3 => 10
  | 4 => 9
  | _ => 8
/-- the kind of a field: 0 int, 1 long, 2 reference, 3 boolean -/
def fty : Nat → Nat → Nat := fun c k => (match c with
  | 0 => [2, 2, 2, 2, 2, 2, 2, 0]
  | 1 => [2, 2, 2]
  | 2 => [2, 2, 0, 0]
  | 3 => [2, 2, 2, 2, 2, 2, 2, 2, 2, 0]
  | 4 => [0, 0, 0, 1, 1, 3, 1, 1, 0]
  | _ => [2, 2, 2, 2, 2, 3, 1, 1]
  ).getD k 0
/-- what the program makes, in the order in which it makes it: an object of a class, or a row of booleans or ints -/
def SHL : List (Nat ⊕ (Bool × Nat)) := [.inl 5, .inl 0, .inr (false, 5), .inr (false, 5), .inr (false, 5), .inr (false, 5), .inr (false, 5), .inr (false, 5), .inr (false, 5), .inl 2, .inr (false, 24), .inr (false, 4), .inl 3, .inr (false, 14), .inr (false, 14), .inr (false, 14), .inr (false, 14), .inr (false, 364), .inr (false, 364), .inr (false, 364), .inr (false, 364), .inr (false, 364), .inl 1, .inr (true, 160), .inr (false, 160), .inr (false, 160), .inl 4]
abbrev mX0_init : MT := (⟨"RationDesk$Atoms", "<init>", "()V"⟩, prog_2_method_1_code, 1, none, 1, 16, 0)
abbrev mX0_defined : MT := (⟨"RationDesk$Atoms", "defined", "()I"⟩, prog_2_method_2_code, 1, (some .int), 0, 0, 0)
abbrev mX5_isAtom : MT := (⟨"RationDesk", "isAtom", "(I)Z"⟩, prog_1_method_16_code, 1, (some .boolean), 0, 0, 5)
abbrev mX0_setPlane : MT := (⟨"RationDesk$Atoms", "setPlane", "(IIIII)V"⟩, prog_2_method_5_code, 6, none, 1, 20, 0)
abbrev mX0_defineLinear : MT := (⟨"RationDesk$Atoms", "defineLinear", "(IIIIIZ)V"⟩, prog_2_method_3_code, 7, none, 2, 45, 0)
abbrev mX0_defineFact : MT := (⟨"RationDesk$Atoms", "defineFact", "(III)V"⟩, prog_2_method_4_code, 4, none, 2, 45, 0)
abbrev mX5_onPlane : MT := (⟨"RationDesk", "onPlane", "(I)I"⟩, prog_1_method_22_code, 1, (some .int), 0, 0, 5)
abbrev mX5_side : MT := (⟨"RationDesk", "side", "(II)I"⟩, prog_1_method_21_code, 2, (some .int), 0, 0, 5)
abbrev mX0_sidesNeeded : MT := (⟨"RationDesk$Atoms", "sidesNeeded", "(I)I"⟩, prog_2_method_6_code, 5, (some .int), 1, 21, 0)
abbrev mX0_sidesSought : MT := (⟨"RationDesk$Atoms", "sidesSought", "(I)I"⟩, prog_2_method_7_code, 5, (some .int), 1, 21, 0)
abbrev mX5_areEqual : MT := (⟨"RationDesk", "areEqual", "(III)Z"⟩, prog_1_method_23_code, 5, (some .boolean), 0, 0, 5)
abbrev mX0_contradict : MT := (⟨"RationDesk$Atoms", "contradict", "(IIII)Z"⟩, prog_2_method_9_code, 7, (some .boolean), 1, 24, 0)
abbrev mX0_hasFunction : MT := (⟨"RationDesk$Atoms", "hasFunction", "(II)Z"⟩, prog_2_method_8_code, 5, (some .boolean), 2, 50, 0)
abbrev mX1_init : MT := (⟨"RationDesk$Cells", "<init>", "()V"⟩, prog_3_method_1_code, 1, none, 1, 16, 1)
abbrev mX1_cellOf : MT := (⟨"RationDesk$Cells", "cellOf", "(II)I"⟩, prog_3_method_4_code, 2, (some .int), 0, 0, 1)
abbrev mX1_isCell : MT := (⟨"RationDesk$Cells", "isCell", "(I)Z"⟩, prog_3_method_5_code, 1, (some .boolean), 0, 0, 1)
abbrev mX1_pairsNeeded : MT := (⟨"RationDesk$Cells", "pairsNeeded", "(I)I"⟩, prog_3_method_10_code, 3, (some .int), 1, 24, 1)
abbrev mX1_pairsSought : MT := (⟨"RationDesk$Cells", "pairsSought", "(I)I"⟩, prog_3_method_11_code, 3, (some .int), 1, 24, 1)
abbrev mX3_havePoint : MT := (⟨"RationDesk$Corners", "havePoint", "(II)Z"⟩, prog_5_method_7_code, 5, (some .boolean), 0, 0, 3)
abbrev mX1_rebuildCell : MT := (⟨"RationDesk$Cells", "rebuildCell", "(IILRationDesk$Atoms;LRationDesk$Corners;)V"⟩, prog_3_method_3_code, 6, none, 3, 74, 1)
abbrev mX1_rebuild : MT := (⟨"RationDesk$Cells", "rebuild", "(LRationDesk$Atoms;LRationDesk$Corners;)V"⟩, prog_3_method_2_code, 5, none, 4, 99, 1)
abbrev mX1_isOpen : MT := (⟨"RationDesk$Cells", "isOpen", "(I)Z"⟩, prog_3_method_6_code, 2, (some .boolean), 1, 20, 1)
abbrev mX1_neededIn : MT := (⟨"RationDesk$Cells", "neededIn", "(I)I"⟩, prog_3_method_7_code, 2, (some .int), 1, 20, 1)
abbrev mX1_soughtIn : MT := (⟨"RationDesk$Cells", "soughtIn", "(I)I"⟩, prog_3_method_8_code, 2, (some .int), 1, 20, 1)
abbrev mX1_isOpenSomewhere : MT := (⟨"RationDesk$Cells", "isOpenSomewhere", "(I)Z"⟩, prog_3_method_9_code, 3, (some .boolean), 2, 41, 1)
abbrev mX2_init : MT := (⟨"RationDesk$ClauseStack", "<init>", "()V"⟩, prog_4_method_1_code, 1, none, 1, 16, 2)
abbrev mX2_size : MT := (⟨"RationDesk$ClauseStack", "size", "()I"⟩, prog_4_method_2_code, 1, (some .int), 0, 0, 2)
abbrev mX2_level : MT := (⟨"RationDesk$ClauseStack", "level", "()I"⟩, prog_4_method_3_code, 1, (some .int), 0, 0, 2)
abbrev mX2_add : MT := (⟨"RationDesk$ClauseStack", "add", "(III)Z"⟩, prog_4_method_4_code, 5, (some .boolean), 0, 0, 2)
abbrev mX2_raise : MT := (⟨"RationDesk$ClauseStack", "raise", "()Z"⟩, prog_4_method_5_code, 1, (some .boolean), 0, 0, 2)
abbrev mX2_lower : MT := (⟨"RationDesk$ClauseStack", "lower", "()Z"⟩, prog_4_method_6_code, 1, (some .boolean), 0, 0, 2)
abbrev mX5_holdsIn : MT := (⟨"RationDesk", "holdsIn", "(II)Z"⟩, prog_1_method_20_code, 3, (some .boolean), 0, 0, 5)
abbrev mX2_isSatisfiedBy : MT := (⟨"RationDesk$ClauseStack", "isSatisfiedBy", "(II)Z"⟩, prog_4_method_8_code, 4, (some .boolean), 1, 22, 2)
abbrev mX2_areSatisfiedBy : MT := (⟨"RationDesk$ClauseStack", "areSatisfiedBy", "(I)Z"⟩, prog_4_method_7_code, 3, (some .boolean), 2, 45, 2)
abbrev mX3_addTo : MT := (⟨"RationDesk$Corners", "addTo", "(III)V"⟩, prog_5_method_2_code, 4, none, 0, 0, 3)
abbrev mX3_init : MT := (⟨"RationDesk$Corners", "<init>", "()V"⟩, prog_5_method_1_code, 2, none, 1, 23, 3)
abbrev mX3_count : MT := (⟨"RationDesk$Corners", "count", "()I"⟩, prog_5_method_3_code, 1, (some .int), 0, 0, 3)
abbrev mX3_sidesOf : MT := (⟨"RationDesk$Corners", "sidesOf", "(I)I"⟩, prog_5_method_4_code, 2, (some .int), 0, 0, 3)
abbrev mX3_divisorOf : MT := (⟨"RationDesk$Corners", "divisorOf", "(I)I"⟩, prog_5_method_5_code, 2, (some .int), 0, 0, 3)
abbrev mX3_sumAt : MT := (⟨"RationDesk$Corners", "sumAt", "(IIII)J"⟩, prog_5_method_6_code, 5, (some .long), 0, 0, 3)
abbrev mX3_isPlane : MT := (⟨"RationDesk$Corners", "isPlane", "(I)Z"⟩, prog_5_method_11_code, 1, (some .boolean), 0, 0, 3)
abbrev mX3_determinant : MT := (⟨"RationDesk$Corners", "determinant", "([I[I[IIII)I"⟩, prog_5_method_10_code, 6, (some .int), 1, 20, 3)
abbrev mX3_findSides : MT := (⟨"RationDesk$Corners", "findSides", "(IIII)I"⟩, prog_5_method_13_code, 8, (some .int), 1, 21, 3)
abbrev mX3_keep : MT := (⟨"RationDesk$Corners", "keep", "(IIII)V"⟩, prog_5_method_12_code, 5, none, 2, 48, 3)
abbrev mX5_isWithin : MT := (⟨"RationDesk", "isWithin", "(II)Z"⟩, prog_1_method_13_code, 2, (some .boolean), 0, 0, 5)
abbrev mX3_meet : MT := (⟨"RationDesk$Corners", "meet", "(III)V"⟩, prog_5_method_9_code, 11, none, 3, 72, 3)
abbrev mX3_rebuild : MT := (⟨"RationDesk$Corners", "rebuild", "(LRationDesk$Atoms;)V"⟩, prog_5_method_8_code, 5, none, 4, 102, 3)
abbrev mX4_init : MT := (⟨"RationDesk$Peak", "<init>", "()V"⟩, prog_6_method_1_code, 1, none, 1, 16, 4)
abbrev mX4_start : MT := (⟨"RationDesk$Peak", "start", "(III)V"⟩, prog_6_method_2_code, 4, none, 0, 0, 4)
abbrev mX4_isFound : MT := (⟨"RationDesk$Peak", "isFound", "()Z"⟩, prog_6_method_3_code, 1, (some .boolean), 0, 0, 4)
abbrev mX4_isReached : MT := (⟨"RationDesk$Peak", "isReached", "()Z"⟩, prog_6_method_4_code, 1, (some .boolean), 0, 0, 4)
abbrev mX4_isAtMost : MT := (⟨"RationDesk$Peak", "isAtMost", "(I)Z"⟩, prog_6_method_5_code, 2, (some .boolean), 0, 0, 4)
abbrev mX4_compare : MT := (⟨"RationDesk$Peak", "compare", "(JJJJ)J"⟩, prog_6_method_9_code, 8, (some .long), 0, 0, 4)
abbrev mX4_climbCorner : MT := (⟨"RationDesk$Peak", "climbCorner", "(JJI)V"⟩, prog_6_method_8_code, 8, none, 1, 27, 4)
abbrev mX4_climbCell : MT := (⟨"RationDesk$Peak", "climbCell", "(LRationDesk$Corners;I)V"⟩, prog_6_method_7_code, 5, none, 2, 54, 4)
abbrev mX4_include : MT := (⟨"RationDesk$Peak", "include", "(LRationDesk$Corners;II)V"⟩, prog_6_method_6_code, 7, none, 3, 78, 4)
abbrev mX4_commonDivisor : MT := (⟨"RationDesk$Peak", "commonDivisor", "(JJ)J"⟩, prog_6_method_12_code, 11, (some .long), 1, 17, 4)
abbrev mX4_reducedOver : MT := (⟨"RationDesk$Peak", "reducedOver", "()J"⟩, prog_6_method_10_code, 3, (some .long), 2, 47, 4)
abbrev mX4_reducedUnder : MT := (⟨"RationDesk$Peak", "reducedUnder", "()J"⟩, prog_6_method_11_code, 3, (some .long), 2, 47, 4)
abbrev mX5_init : MT := (⟨"RationDesk", "<init>", "()V"⟩, prog_1_method_1_code, 1, none, 2, 44, 5)
abbrev mX5_areFactors : MT := (⟨"RationDesk", "areFactors", "(III)Z"⟩, prog_1_method_14_code, 3, (some .boolean), 1, 21, 5)
abbrev mX5_isLimit : MT := (⟨"RationDesk", "isLimit", "(I)Z"⟩, prog_1_method_15_code, 1, (some .boolean), 1, 21, 5)
abbrev mX5_linear : MT := (⟨"RationDesk", "linear", "(IIIIIZ)Z"⟩, prog_1_method_2_code, 7, (some .boolean), 3, 71, 5)
abbrev mX5_isNumber : MT := (⟨"RationDesk", "isNumber", "(I)Z"⟩, prog_1_method_17_code, 1, (some .boolean), 0, 0, 5)
abbrev mX5_fact : MT := (⟨"RationDesk", "fact", "(III)Z"⟩, prog_1_method_3_code, 4, (some .boolean), 3, 68, 5)
abbrev mX5_isDefined : MT := (⟨"RationDesk", "isDefined", "(I)Z"⟩, prog_1_method_18_code, 2, (some .boolean), 1, 20, 5)
abbrev mX5_isDefinedOrAbsent : MT := (⟨"RationDesk", "isDefinedOrAbsent", "(I)Z"⟩, prog_1_method_19_code, 2, (some .boolean), 2, 41, 5)
abbrev mX5_clause : MT := (⟨"RationDesk", "clause", "(III)I"⟩, prog_1_method_4_code, 5, (some .int), 3, 62, 5)
abbrev mX5_push : MT := (⟨"RationDesk", "push", "()I"⟩, prog_1_method_5_code, 1, (some .int), 1, 20, 5)
abbrev mX5_pop : MT := (⟨"RationDesk", "pop", "()I"⟩, prog_1_method_6_code, 1, (some .int), 1, 20, 5)
abbrev mX5_isWorld : MT := (⟨"RationDesk", "isWorld", "(I)Z"⟩, prog_1_method_25_code, 2, (some .boolean), 3, 67, 5)
abbrev mX5_refresh : MT := (⟨"RationDesk", "refresh", "()V"⟩, prog_1_method_24_code, 1, none, 5, 126, 5)
abbrev mX5_worlds : MT := (⟨"RationDesk", "worlds", "()I"⟩, prog_1_method_7_code, 3, (some .int), 6, 146, 5)
abbrev mX5_world : MT := (⟨"RationDesk", "world", "(I)Z"⟩, prog_1_method_8_code, 2, (some .boolean), 6, 146, 5)
abbrev mX5_holds : MT := (⟨"RationDesk", "holds", "(I)I"⟩, prog_1_method_9_code, 6, (some .int), 6, 146, 5)
abbrev mX5_climbWorld : MT := (⟨"RationDesk", "climbWorld", "(I)V"⟩, prog_1_method_27_code, 4, none, 4, 104, 5)
abbrev mX5_climb : MT := (⟨"RationDesk", "climb", "(III)V"⟩, prog_1_method_26_code, 5, none, 5, 127, 5)
abbrev mX5_most : MT := (⟨"RationDesk", "most", "(III)I"⟩, prog_1_method_10_code, 4, (some .int), 6, 151, 5)
abbrev mX5_top : MT := (⟨"RationDesk", "top", "(I)J"⟩, prog_1_method_11_code, 2, (some .long), 0, 0, 5)
abbrev mX5_bounded : MT := (⟨"RationDesk", "bounded", "(IIII)Z"⟩, prog_1_method_12_code, 5, (some .boolean), 6, 151, 5)
abbrev mX6_cell : MT := (⟨"RationDeskLaw", "cell", "([II)I"⟩, method_2_code, 2, (some .int), 0, 0, 6)
abbrev mX6_small : MT := (⟨"RationDeskLaw", "small", "(I)I"⟩, method_3_code, 1, (some .int), 0, 0, 6)
abbrev mX6_atoms : MT := (⟨"RationDeskLaw", "atoms", "(LRationDesk;[I)I"⟩, method_4_code, 6, (some .int), 4, 97, 6)
abbrev mX6_clauses : MT := (⟨"RationDeskLaw", "clauses", "(LRationDesk;[II)V"⟩, method_5_code, 10, none, 4, 86, 6)
abbrev mX6_set : MT := (⟨"RationDeskLaw", "set", "(LRationDesk;I)I"⟩, method_6_code, 4, (some .int), 7, 167, 6)
abbrev mX6_bits : MT := (⟨"RationDeskLaw", "bits", "(I)I"⟩, method_7_code, 3, (some .int), 0, 0, 6)
abbrev mX6_with : MT := (⟨"RationDeskLaw", "with", "(I)I"⟩, method_8_code, 3, (some .int), 0, 0, 6)
abbrev mX6_satisfied : MT := (⟨"RationDeskLaw", "satisfied", "(I[II)Z"⟩, method_9_code, 8, (some .boolean), 1, 22, 6)
abbrev mX6_halves : MT := (⟨"RationDeskLaw", "halves", "(LRationDesk;II)Z"⟩, method_10_code, 9, (some .boolean), 8, 190, 6)
abbrev mX6_compare : MT := (⟨"RationDeskLaw", "compare", "(JJJJ)I"⟩, method_11_code, 12, (some .int), 0, 0, 6)
abbrev mX6_tops : MT := (⟨"RationDeskLaw", "tops", "(LRationDesk;IIIII)Z"⟩, method_12_code, 17, (some .boolean), 7, 175, 6)
abbrev mX6_fixed : MT := (⟨"RationDeskLaw", "fixed", "(III)Z"⟩, method_13_code, 11, (some .boolean), 7, 175, 6)
abbrev mX6_law : MT := (⟨"RationDeskLaw", "law", "([I)Z"⟩, code, 6, (some .boolean), 9, 218, 6)
/-- fields by the class and the entry of its pool: class, place, where the word stands, a nest mate's -/
def FL : List (Nat × Nat × Nat × Nat × Nat × Bool) := [(0, 9, 0, 0, 38, false), (0, 15, 0, 1, 39, false), (0, 18, 0, 2, 41, false), (0, 21, 0, 3, 43, false), (0, 24, 0, 4, 45, false), (0, 27, 0, 5, 47, false), (0, 30, 0, 6, 48, false), (0, 33, 0, 7, 49, false), (1, 9, 1, 0, 138, false), (1, 15, 1, 1, 139, false), (1, 19, 1, 2, 140, false), (2, 9, 2, 0, 74, false), (2, 15, 2, 1, 75, false), (2, 18, 2, 2, 76, false), (2, 22, 2, 3, 77, false), (3, 11, 3, 0, 101, false), (3, 15, 3, 1, 102, false), (3, 18, 3, 2, 103, false), (3, 21, 3, 3, 104, false), (3, 24, 3, 4, 105, false), (3, 27, 3, 5, 106, false), (3, 30, 3, 6, 107, false), (3, 33, 3, 7, 108, false), (3, 36, 3, 8, 109, false), (3, 39, 3, 9, 110, false), (3, 53, 0, 1, 40, true), (3, 56, 0, 2, 42, true), (3, 57, 0, 3, 44, true), (3, 58, 0, 4, 46, true), (4, 7, 4, 0, 155, false), (4, 13, 4, 1, 156, false), (4, 16, 4, 2, 157, false), (4, 19, 4, 3, 158, false), (4, 23, 4, 4, 159, false), (4, 26, 4, 5, 160, false), (4, 30, 4, 6, 161, false), (4, 33, 4, 7, 162, false), (4, 36, 4, 8, 163, false), (5, 12, 5, 0, 183, false), (5, 19, 5, 1, 184, false), (5, 26, 5, 2, 185, false), (5, 33, 5, 3, 186, false), (5, 40, 5, 4, 187, false), (5, 44, 5, 5, 188, false), (5, 48, 5, 6, 189, false), (5, 52, 5, 7, 190, false)]
def SLT : List (Nat × Nat × Nat × Nat × Bool) := [(1, 61, 100, 270, true), (1, 64, 101, 271, true), (3, 43, 100, 93, true), (3, 50, 101, 99, true), (5, 135, 102, 275, false)]
def NLT : List (Nat × Nat × Nat × Nat × Nat × Nat) := [(5, 9, 0, 32, 33, 18), (5, 16, 2, 68, 69, 19), (5, 23, 3, 87, 88, 20), (5, 30, 1, 132, 133, 21), (5, 37, 4, 149, 150, 22), (6, 14, 5, 24, 25, 17)]
/-- calls: class, entry, kind (0 virtual, 1 nest virtual, 2 static, 3 nest static, 4 special, 5 nest special), the method, how many arguments, where the words stand -/
def CL : List (Nat × Nat × Nat × MT × Nat × Nat × Nat × Nat × Nat × Nat) := [(0, 37, 3, mX5_isAtom, 1, 294, 295, 0, 17, 296), (0, 41, 0, mX0_setPlane, 5, 347, 349, 9, 18, 350), (0, 45, 3, mX5_side, 2, 265, 245, 0, 17, 246), (0, 49, 3, mX5_onPlane, 1, 266, 242, 0, 17, 243), (0, 53, 0, mX0_contradict, 4, 290, 292, 6, 18, 293), (0, 57, 3, mX5_areEqual, 3, 297, 273, 0, 17, 274), (1, 22, 0, mX1_rebuildCell, 4, 251, 253, 5, 21, 254), (1, 26, 2, mX1_cellOf, 2, 255, 256, 0, 21, 257), (1, 30, 2, mX1_isCell, 1, 258, 259, 0, 21, 260), (1, 34, 0, mX0_sidesNeeded, 1, 261, 262, 263, 18, 264), (1, 40, 2, mX1_pairsNeeded, 1, 267, 268, 0, 21, 269), (1, 43, 0, mX0_sidesSought, 1, 278, 279, 280, 18, 281), (1, 46, 2, mX1_pairsSought, 1, 282, 283, 0, 21, 284), (1, 49, 0, mX0_hasFunction, 2, 286, 287, 288, 18, 289), (1, 53, 0, mX3_havePoint, 2, 298, 299, 300, 20, 301), (1, 58, 0, mX1_isOpen, 1, 314, 315, 316, 21, 317), (1, 67, 3, mX5_areEqual, 3, 272, 273, 0, 17, 274), (1, 71, 3, mX5_onPlane, 1, 277, 242, 0, 17, 243), (1, 74, 3, mX5_side, 2, 285, 245, 0, 17, 246), (2, 25, 0, mX2_isSatisfiedBy, 2, 322, 324, 8, 19, 325), (2, 29, 3, mX5_holdsIn, 2, 326, 327, 0, 17, 328), (3, 46, 0, mX3_addTo, 3, 95, 97, 0, 20, 98), (3, 59, 0, mX3_meet, 3, 220, 222, 2, 20, 223), (3, 62, 2, mX3_determinant, 6, 224, 225, 0, 20, 226), (3, 66, 3, mX5_isWithin, 2, 230, 231, 0, 17, 232), (3, 70, 0, mX3_keep, 4, 233, 235, 3, 20, 236), (3, 74, 2, mX3_isPlane, 1, 227, 228, 0, 20, 229), (3, 78, 0, mX3_findSides, 4, 237, 239, 4, 20, 240), (3, 82, 3, mX5_onPlane, 1, 241, 242, 0, 17, 243), (3, 86, 3, mX5_side, 2, 244, 245, 0, 17, 246), (4, 39, 0, mX4_climbCell, 2, 469, 471, 14, 22, 472), (4, 43, 2, mX4_compare, 4, 493, 494, 0, 22, 495), (4, 47, 0, mX3_count, 0, 473, 474, 475, 20, 476), (4, 53, 0, mX3_sidesOf, 1, 477, 478, 479, 20, 480), (4, 57, 0, mX3_sumAt, 4, 481, 482, 483, 20, 484), (4, 61, 0, mX3_divisorOf, 1, 485, 486, 487, 20, 488), (4, 64, 0, mX4_climbCorner, 3, 489, 491, 15, 22, 492), (4, 68, 2, mX4_commonDivisor, 2, 500, 501, 0, 22, 502), (5, 11, 5, mX0_init, 0, 34, 35, 0, 18, 36), (5, 18, 5, mX2_init, 0, 70, 71, 0, 19, 72), (5, 25, 4, mX3_init, 0, 89, 90, 0, 20, 91), (5, 32, 5, mX1_init, 0, 134, 135, 0, 21, 136), (5, 39, 5, mX4_init, 0, 151, 152, 0, 22, 153), (5, 55, 2, mX5_isAtom, 1, 339, 295, 0, 17, 296), (5, 59, 2, mX5_areFactors, 3, 358, 359, 0, 17, 360), (5, 63, 2, mX5_isLimit, 1, 362, 363, 0, 17, 364), (5, 66, 0, mX0_defineLinear, 6, 365, 366, 367, 18, 368), (5, 70, 2, mX5_isNumber, 1, 340, 341, 0, 17, 342), (5, 73, 0, mX0_defineFact, 3, 343, 344, 345, 18, 346), (5, 77, 0, mX5_isDefined, 1, 376, 378, 10, 17, 379), (5, 80, 0, mX5_isDefinedOrAbsent, 1, 380, 382, 11, 17, 383), (5, 83, 0, mX2_add, 3, 384, 385, 386, 19, 387), (5, 86, 0, mX2_size, 0, 388, 389, 390, 19, 391), (5, 90, 0, mX2_raise, 0, 415, 416, 417, 19, 418), (5, 94, 0, mX2_level, 0, 419, 420, 421, 19, 422), (5, 97, 0, mX2_lower, 0, 432, 433, 434, 19, 435), (5, 100, 0, mX5_refresh, 0, 212, 214, 1, 17, 215), (5, 103, 0, mX5_isWorld, 1, 302, 304, 7, 17, 305), (5, 106, 0, mX0_defined, 0, 306, 307, 308, 18, 309), (5, 109, 2, mX5_holdsIn, 2, 427, 327, 0, 17, 328), (5, 113, 0, mX5_climb, 3, 443, 445, 12, 17, 446), (5, 116, 0, mX4_reducedOver, 0, 496, 497, 498, 22, 499), (5, 120, 0, mX4_reducedUnder, 0, 506, 507, 508, 22, 509), (5, 123, 0, mX4_isFound, 0, 510, 511, 512, 22, 513), (5, 126, 0, mX4_isReached, 0, 514, 515, 516, 22, 517), (5, 129, 0, mX4_isAtMost, 1, 526, 527, 528, 22, 529), (5, 132, 2, mX5_isWithin, 2, 361, 231, 0, 17, 232), (5, 139, 0, mX3_rebuild, 1, 216, 217, 218, 20, 219), (5, 143, 0, mX1_rebuild, 2, 247, 248, 249, 21, 250), (5, 146, 0, mX1_isOpenSomewhere, 1, 310, 311, 312, 21, 313), (5, 149, 0, mX2_areSatisfiedBy, 1, 318, 319, 320, 19, 321), (5, 152, 0, mX4_start, 3, 447, 448, 449, 22, 450), (5, 155, 0, mX5_climbWorld, 1, 451, 453, 13, 17, 454), (5, 159, 2, mX1_cellOf, 2, 455, 256, 0, 21, 257), (5, 163, 0, mX1_isOpen, 1, 456, 315, 316, 21, 317), (5, 166, 0, mX1_neededIn, 1, 457, 458, 459, 21, 460), (5, 170, 0, mX1_soughtIn, 1, 461, 462, 463, 21, 464), (5, 173, 0, mX4_include, 3, 465, 466, 467, 22, 468), (6, 7, 2, mX6_cell, 2, 329, 330, 0, 16, 331), (6, 13, 0, mX5_fact, 3, 335, 336, 337, 17, 338), (6, 19, 2, mX6_small, 1, 351, 352, 0, 16, 353), (6, 23, 0, mX5_linear, 6, 354, 355, 356, 17, 357), (6, 27, 0, mX5_clause, 3, 372, 373, 374, 17, 375), (6, 31, 0, mX5_world, 1, 395, 396, 397, 17, 398), (6, 35, 2, mX6_with, 1, 405, 406, 0, 16, 407), (6, 38, 0, mX5_push, 0, 411, 412, 413, 17, 414), (6, 42, 2, mX6_set, 2, 392, 393, 0, 16, 394), (6, 46, 0, mX5_holds, 1, 423, 424, 425, 17, 426), (6, 49, 0, mX5_pop, 0, 428, 429, 430, 17, 431), (6, 52, 0, mX5_most, 3, 439, 440, 441, 17, 442), (6, 55, 0, mX5_top, 1, 518, 519, 520, 17, 521), (6, 59, 0, mX5_bounded, 4, 522, 523, 524, 17, 525), (6, 63, 2, mX6_compare, 4, 530, 531, 0, 16, 532), (6, 67, 0, mX5_worlds, 0, 208, 209, 210, 17, 211), (6, 78, 4, mX5_init, 0, 26, 27, 0, 17, 28), (6, 79, 2, mX6_atoms, 2, 332, 333, 0, 16, 334), (6, 83, 2, mX6_clauses, 3, 369, 370, 0, 16, 371), (6, 87, 2, mX6_bits, 1, 399, 400, 0, 16, 401), (6, 90, 2, mX6_satisfied, 3, 402, 403, 0, 16, 404), (6, 94, 2, mX6_halves, 3, 408, 409, 0, 16, 410), (6, 98, 2, mX6_tops, 6, 436, 437, 0, 16, 438), (6, 102, 2, mX6_fixed, 3, 537, 538, 0, 16, 539)]
/-- constants of type long: class, entry, which (-99, 99, -98, 100), where the word stands -/
def LCT : List (Nat × Nat × Nat × Nat) := [(6, 70, 0, 533), (6, 72, 1, 534), (6, 74, 2, 535), (6, 76, 3, 536)]
def OLT : List (Nat × Nat × Nat) := [(0, 3, 37), (1, 3, 137), (2, 3, 73), (3, 3, 92), (4, 1, 154), (5, 3, 29)]
-- instanceMethod 30 code 31
-- abs: class 4 entry 72 at 503 static 504 init 23 code 505
-- arrayClass: arrayClass Jvm.ClassFile.FieldType.int 67, arrayClass Jvm.ClassFile.FieldType.boolean 148
-- laysStatic: laysStatic "RationDesk" "PAIR_LEFT" "[I" 94, laysStatic "RationDesk" "PAIR_RIGHT" "[I" 100, laysStatic "RationDesk" "GROUPS" "[I" 276
