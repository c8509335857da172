-- ===== PART A: goes FIRST, ahead of the names: the tables' words, and 'selects' of the private methods out of them =====
/-- a private method of a class that the tables say can be made, by its rows of tables_1 -/
def lw_okq (q : MethodName × Nat) : Prop := (q.1.cls ≠ "java/lang/invoke/MethodHandle" ∧ q.1.cls ≠ "java/lang/invoke/VarHandle") ∧ Cond.instantiable q.1.cls q.2 ∈ tables_1 ∧ Cond.privateMethod q.1 ∈ tables_1 ∧ Cond.instanceMethod q.1 ∈ tables_1
theorem lw_p0 : lw_okq (⟨"RationDesk$Corners", "addTo", "(III)V"⟩, 10) := ⟨⟨by decide +kernel, by decide +kernel⟩, List.mem_of_getElem? (i := 73) (by decide +kernel), List.mem_of_getElem? (i := 81) (by decide +kernel), List.mem_of_getElem? (i := 82) (by decide +kernel)⟩
theorem lw_p1 : lw_okq (⟨"RationDesk$Atoms", "setPlane", "(IIIII)V"⟩, 8) := ⟨⟨by decide +kernel, by decide +kernel⟩, List.mem_of_getElem? (i := 18) (by decide +kernel), List.mem_of_getElem? (i := 215) (by decide +kernel), List.mem_of_getElem? (i := 216) (by decide +kernel)⟩
theorem lw_p2 : lw_okq (⟨"RationDesk", "isDefined", "(I)Z"⟩, 8) := ⟨⟨by decide +kernel, by decide +kernel⟩, List.mem_of_getElem? (i := 10) (by decide +kernel), List.mem_of_getElem? (i := 234) (by decide +kernel), List.mem_of_getElem? (i := 235) (by decide +kernel)⟩
theorem lw_p3 : lw_okq (⟨"RationDesk", "isDefinedOrAbsent", "(I)Z"⟩, 8) := ⟨⟨by decide +kernel, by decide +kernel⟩, List.mem_of_getElem? (i := 10) (by decide +kernel), List.mem_of_getElem? (i := 242) (by decide +kernel), List.mem_of_getElem? (i := 243) (by decide +kernel)⟩
theorem lw_p4 : lw_okq (⟨"RationDesk", "refresh", "()V"⟩, 8) := ⟨⟨by decide +kernel, by decide +kernel⟩, List.mem_of_getElem? (i := 10) (by decide +kernel), List.mem_of_getElem? (i := 278) (by decide +kernel), List.mem_of_getElem? (i := 279) (by decide +kernel)⟩
theorem lw_p5 : lw_okq (⟨"RationDesk$Corners", "meet", "(III)V"⟩, 10) := ⟨⟨by decide +kernel, by decide +kernel⟩, List.mem_of_getElem? (i := 73) (by decide +kernel), List.mem_of_getElem? (i := 286) (by decide +kernel), List.mem_of_getElem? (i := 287) (by decide +kernel)⟩
theorem lw_p6 : lw_okq (⟨"RationDesk$Corners", "keep", "(IIII)V"⟩, 10) := ⟨⟨by decide +kernel, by decide +kernel⟩, List.mem_of_getElem? (i := 73) (by decide +kernel), List.mem_of_getElem? (i := 297) (by decide +kernel), List.mem_of_getElem? (i := 298) (by decide +kernel)⟩
theorem lw_p7 : lw_okq (⟨"RationDesk$Corners", "findSides", "(IIII)I"⟩, 10) := ⟨⟨by decide +kernel, by decide +kernel⟩, List.mem_of_getElem? (i := 73) (by decide +kernel), List.mem_of_getElem? (i := 301) (by decide +kernel), List.mem_of_getElem? (i := 302) (by decide +kernel)⟩
theorem lw_p8 : lw_okq (⟨"RationDesk$Cells", "rebuildCell", "(IILRationDesk$Atoms;LRationDesk$Corners;)V"⟩, 3) := ⟨⟨by decide +kernel, by decide +kernel⟩, List.mem_of_getElem? (i := 118) (by decide +kernel), List.mem_of_getElem? (i := 315) (by decide +kernel), List.mem_of_getElem? (i := 316) (by decide +kernel)⟩
theorem lw_p9 : lw_okq (⟨"RationDesk$Atoms", "contradict", "(IIII)Z"⟩, 8) := ⟨⟨by decide +kernel, by decide +kernel⟩, List.mem_of_getElem? (i := 18) (by decide +kernel), List.mem_of_getElem? (i := 354) (by decide +kernel), List.mem_of_getElem? (i := 355) (by decide +kernel)⟩
theorem lw_p10 : lw_okq (⟨"RationDesk", "isWorld", "(I)Z"⟩, 8) := ⟨⟨by decide +kernel, by decide +kernel⟩, List.mem_of_getElem? (i := 10) (by decide +kernel), List.mem_of_getElem? (i := 363) (by decide +kernel), List.mem_of_getElem? (i := 364) (by decide +kernel)⟩
theorem lw_p11 : lw_okq (⟨"RationDesk$ClauseStack", "isSatisfiedBy", "(II)Z"⟩, 4) := ⟨⟨by decide +kernel, by decide +kernel⟩, List.mem_of_getElem? (i := 54) (by decide +kernel), List.mem_of_getElem? (i := 379) (by decide +kernel), List.mem_of_getElem? (i := 380) (by decide +kernel)⟩
theorem lw_p12 : lw_okq (⟨"RationDesk", "climb", "(III)V"⟩, 8) := ⟨⟨by decide +kernel, by decide +kernel⟩, List.mem_of_getElem? (i := 10) (by decide +kernel), List.mem_of_getElem? (i := 399) (by decide +kernel), List.mem_of_getElem? (i := 400) (by decide +kernel)⟩
theorem lw_p13 : lw_okq (⟨"RationDesk", "climbWorld", "(I)V"⟩, 8) := ⟨⟨by decide +kernel, by decide +kernel⟩, List.mem_of_getElem? (i := 10) (by decide +kernel), List.mem_of_getElem? (i := 407) (by decide +kernel), List.mem_of_getElem? (i := 408) (by decide +kernel)⟩
theorem lw_p14 : lw_okq (⟨"RationDesk$Peak", "climbCell", "(LRationDesk$Corners;I)V"⟩, 9) := ⟨⟨by decide +kernel, by decide +kernel⟩, List.mem_of_getElem? (i := 135) (by decide +kernel), List.mem_of_getElem? (i := 425) (by decide +kernel), List.mem_of_getElem? (i := 426) (by decide +kernel)⟩
theorem lw_p15 : lw_okq (⟨"RationDesk$Peak", "climbCorner", "(JJI)V"⟩, 9) := ⟨⟨by decide +kernel, by decide +kernel⟩, List.mem_of_getElem? (i := 135) (by decide +kernel), List.mem_of_getElem? (i := 445) (by decide +kernel), List.mem_of_getElem? (i := 446) (by decide +kernel)⟩
def lw_privs_1 : List (MethodName × Nat) := [(⟨"RationDesk$Corners", "addTo", "(III)V"⟩, 10), (⟨"RationDesk$Atoms", "setPlane", "(IIIII)V"⟩, 8), (⟨"RationDesk", "isDefined", "(I)Z"⟩, 8), (⟨"RationDesk", "isDefinedOrAbsent", "(I)Z"⟩, 8), (⟨"RationDesk", "refresh", "()V"⟩, 8), (⟨"RationDesk$Corners", "meet", "(III)V"⟩, 10), (⟨"RationDesk$Corners", "keep", "(IIII)V"⟩, 10), (⟨"RationDesk$Corners", "findSides", "(IIII)I"⟩, 10), (⟨"RationDesk$Cells", "rebuildCell", "(IILRationDesk$Atoms;LRationDesk$Corners;)V"⟩, 3), (⟨"RationDesk$Atoms", "contradict", "(IIII)Z"⟩, 8), (⟨"RationDesk", "isWorld", "(I)Z"⟩, 8), (⟨"RationDesk$ClauseStack", "isSatisfiedBy", "(II)Z"⟩, 4), (⟨"RationDesk", "climb", "(III)V"⟩, 8), (⟨"RationDesk", "climbWorld", "(I)V"⟩, 8), (⟨"RationDesk$Peak", "climbCell", "(LRationDesk$Corners;I)V"⟩, 9), (⟨"RationDesk$Peak", "climbCorner", "(JJI)V"⟩, 9)]
theorem lw_r1 : ∀ q ∈ lw_privs_1, lw_okq q := List.forall_mem_cons.mpr ⟨lw_p0, List.forall_mem_cons.mpr ⟨lw_p1, List.forall_mem_cons.mpr ⟨lw_p2, List.forall_mem_cons.mpr ⟨lw_p3, List.forall_mem_cons.mpr ⟨lw_p4, List.forall_mem_cons.mpr ⟨lw_p5, List.forall_mem_cons.mpr ⟨lw_p6, List.forall_mem_cons.mpr ⟨lw_p7, List.forall_mem_cons.mpr ⟨lw_p8, List.forall_mem_cons.mpr ⟨lw_p9, List.forall_mem_cons.mpr ⟨lw_p10, List.forall_mem_cons.mpr ⟨lw_p11, List.forall_mem_cons.mpr ⟨lw_p12, List.forall_mem_cons.mpr ⟨lw_p13, List.forall_mem_cons.mpr ⟨lw_p14, List.forall_mem_cons.mpr ⟨lw_p15, fun _ h => absurd h List.not_mem_nil⟩⟩⟩⟩⟩⟩⟩⟩⟩⟩⟩⟩⟩⟩⟩⟩
theorem lw_p16 : lw_okq (⟨"RationDeskModel", "set", "(IIIII)V"⟩, 23) := ⟨⟨by decide +kernel, by decide +kernel⟩, List.mem_of_getElem? (i := 486) (by decide +kernel), List.mem_of_getElem? (i := 572) (by decide +kernel), List.mem_of_getElem? (i := 573) (by decide +kernel)⟩
theorem lw_p17 : lw_okq (⟨"RationDeskModel", "isLiteral", "(I)Z"⟩, 23) := ⟨⟨by decide +kernel, by decide +kernel⟩, List.mem_of_getElem? (i := 486) (by decide +kernel), List.mem_of_getElem? (i := 584) (by decide +kernel), List.mem_of_getElem? (i := 585) (by decide +kernel)⟩
theorem lw_p18 : lw_okq (⟨"RationDeskModel", "isWorld", "(I)Z"⟩, 23) := ⟨⟨by decide +kernel, by decide +kernel⟩, List.mem_of_getElem? (i := 486) (by decide +kernel), List.mem_of_getElem? (i := 600) (by decide +kernel), List.mem_of_getElem? (i := 601) (by decide +kernel)⟩
theorem lw_p19 : lw_okq (⟨"RationDeskModel", "know", "()V"⟩, 23) := ⟨⟨by decide +kernel, by decide +kernel⟩, List.mem_of_getElem? (i := 486) (by decide +kernel), List.mem_of_getElem? (i := 604) (by decide +kernel), List.mem_of_getElem? (i := 605) (by decide +kernel)⟩
theorem lw_p20 : lw_okq (⟨"RationDeskModel", "allPlanes", "()V"⟩, 23) := ⟨⟨by decide +kernel, by decide +kernel⟩, List.mem_of_getElem? (i := 486) (by decide +kernel), List.mem_of_getElem? (i := 608) (by decide +kernel), List.mem_of_getElem? (i := 609) (by decide +kernel)⟩
theorem lw_p21 : lw_okq (⟨"RationDeskModel", "plane", "(IIII)V"⟩, 23) := ⟨⟨by decide +kernel, by decide +kernel⟩, List.mem_of_getElem? (i := 486) (by decide +kernel), List.mem_of_getElem? (i := 612) (by decide +kernel), List.mem_of_getElem? (i := 613) (by decide +kernel)⟩
theorem lw_p22 : lw_okq (⟨"RationDeskModel", "isLinear", "(I)Z"⟩, 23) := ⟨⟨by decide +kernel, by decide +kernel⟩, List.mem_of_getElem? (i := 486) (by decide +kernel), List.mem_of_getElem? (i := 616) (by decide +kernel), List.mem_of_getElem? (i := 617) (by decide +kernel)⟩
theorem lw_p23 : lw_okq (⟨"RationDeskModel", "meetAll", "(II)V"⟩, 23) := ⟨⟨by decide +kernel, by decide +kernel⟩, List.mem_of_getElem? (i := 486) (by decide +kernel), List.mem_of_getElem? (i := 620) (by decide +kernel), List.mem_of_getElem? (i := 621) (by decide +kernel)⟩
theorem lw_p24 : lw_okq (⟨"RationDeskModel", "meet", "(III)V"⟩, 23) := ⟨⟨by decide +kernel, by decide +kernel⟩, List.mem_of_getElem? (i := 486) (by decide +kernel), List.mem_of_getElem? (i := 624) (by decide +kernel), List.mem_of_getElem? (i := 625) (by decide +kernel)⟩
theorem lw_p25 : lw_okq (⟨"RationDeskModel", "determinant", "(IIIIII)I"⟩, 23) := ⟨⟨by decide +kernel, by decide +kernel⟩, List.mem_of_getElem? (i := 486) (by decide +kernel), List.mem_of_getElem? (i := 628) (by decide +kernel), List.mem_of_getElem? (i := 629) (by decide +kernel)⟩
theorem lw_p26 : lw_okq (⟨"RationDeskModel", "defined", "()I"⟩, 23) := ⟨⟨by decide +kernel, by decide +kernel⟩, List.mem_of_getElem? (i := 486) (by decide +kernel), List.mem_of_getElem? (i := 632) (by decide +kernel), List.mem_of_getElem? (i := 633) (by decide +kernel)⟩
theorem lw_p27 : lw_okq (⟨"RationDeskModel", "ofKind", "(I)I"⟩, 23) := ⟨⟨by decide +kernel, by decide +kernel⟩, List.mem_of_getElem? (i := 486) (by decide +kernel), List.mem_of_getElem? (i := 636) (by decide +kernel), List.mem_of_getElem? (i := 637) (by decide +kernel)⟩
theorem lw_p28 : lw_okq (⟨"RationDeskModel", "factsFit", "(II)Z"⟩, 23) := ⟨⟨by decide +kernel, by decide +kernel⟩, List.mem_of_getElem? (i := 486) (by decide +kernel), List.mem_of_getElem? (i := 640) (by decide +kernel), List.mem_of_getElem? (i := 641) (by decide +kernel)⟩
theorem lw_p29 : lw_okq (⟨"RationDeskModel", "open", "(IIZIII)Z"⟩, 23) := ⟨⟨by decide +kernel, by decide +kernel⟩, List.mem_of_getElem? (i := 486) (by decide +kernel), List.mem_of_getElem? (i := 647) (by decide +kernel), List.mem_of_getElem? (i := 648) (by decide +kernel)⟩
theorem lw_p30 : lw_okq (⟨"RationDeskModel", "fits", "(III)Z"⟩, 23) := ⟨⟨by decide +kernel, by decide +kernel⟩, List.mem_of_getElem? (i := 486) (by decide +kernel), List.mem_of_getElem? (i := 651) (by decide +kernel), List.mem_of_getElem? (i := 652) (by decide +kernel)⟩
theorem lw_p31 : lw_okq (⟨"RationDeskModel", "compare", "(IIII)I"⟩, 23) := ⟨⟨by decide +kernel, by decide +kernel⟩, List.mem_of_getElem? (i := 486) (by decide +kernel), List.mem_of_getElem? (i := 655) (by decide +kernel), List.mem_of_getElem? (i := 656) (by decide +kernel)⟩
def lw_privs_2 : List (MethodName × Nat) := [(⟨"RationDeskModel", "set", "(IIIII)V"⟩, 23), (⟨"RationDeskModel", "isLiteral", "(I)Z"⟩, 23), (⟨"RationDeskModel", "isWorld", "(I)Z"⟩, 23), (⟨"RationDeskModel", "know", "()V"⟩, 23), (⟨"RationDeskModel", "allPlanes", "()V"⟩, 23), (⟨"RationDeskModel", "plane", "(IIII)V"⟩, 23), (⟨"RationDeskModel", "isLinear", "(I)Z"⟩, 23), (⟨"RationDeskModel", "meetAll", "(II)V"⟩, 23), (⟨"RationDeskModel", "meet", "(III)V"⟩, 23), (⟨"RationDeskModel", "determinant", "(IIIIII)I"⟩, 23), (⟨"RationDeskModel", "defined", "()I"⟩, 23), (⟨"RationDeskModel", "ofKind", "(I)I"⟩, 23), (⟨"RationDeskModel", "factsFit", "(II)Z"⟩, 23), (⟨"RationDeskModel", "open", "(IIZIII)Z"⟩, 23), (⟨"RationDeskModel", "fits", "(III)Z"⟩, 23), (⟨"RationDeskModel", "compare", "(IIII)I"⟩, 23)]
theorem lw_r2 : ∀ q ∈ lw_privs_2, lw_okq q := List.forall_mem_cons.mpr ⟨lw_p16, List.forall_mem_cons.mpr ⟨lw_p17, List.forall_mem_cons.mpr ⟨lw_p18, List.forall_mem_cons.mpr ⟨lw_p19, List.forall_mem_cons.mpr ⟨lw_p20, List.forall_mem_cons.mpr ⟨lw_p21, List.forall_mem_cons.mpr ⟨lw_p22, List.forall_mem_cons.mpr ⟨lw_p23, List.forall_mem_cons.mpr ⟨lw_p24, List.forall_mem_cons.mpr ⟨lw_p25, List.forall_mem_cons.mpr ⟨lw_p26, List.forall_mem_cons.mpr ⟨lw_p27, List.forall_mem_cons.mpr ⟨lw_p28, List.forall_mem_cons.mpr ⟨lw_p29, List.forall_mem_cons.mpr ⟨lw_p30, List.forall_mem_cons.mpr ⟨lw_p31, fun _ h => absurd h List.not_mem_nil⟩⟩⟩⟩⟩⟩⟩⟩⟩⟩⟩⟩⟩⟩⟩⟩
theorem lw_p32 : lw_okq (⟨"RationDeskModel", "satisfies", "(I)Z"⟩, 23) := ⟨⟨by decide +kernel, by decide +kernel⟩, List.mem_of_getElem? (i := 486) (by decide +kernel), List.mem_of_getElem? (i := 659) (by decide +kernel), List.mem_of_getElem? (i := 660) (by decide +kernel)⟩
theorem lw_p33 : lw_okq (⟨"RationDeskModel", "climb", "(III)Z"⟩, 23) := ⟨⟨by decide +kernel, by decide +kernel⟩, List.mem_of_getElem? (i := 486) (by decide +kernel), List.mem_of_getElem? (i := 675) (by decide +kernel), List.mem_of_getElem? (i := 676) (by decide +kernel)⟩
def lw_privs_3 : List (MethodName × Nat) := [(⟨"RationDeskModel", "satisfies", "(I)Z"⟩, 23), (⟨"RationDeskModel", "climb", "(III)Z"⟩, 23)]
theorem lw_r3 : ∀ q ∈ lw_privs_3, lw_okq q := List.forall_mem_cons.mpr ⟨lw_p32, List.forall_mem_cons.mpr ⟨lw_p33, fun _ h => absurd h List.not_mem_nil⟩⟩
def lw_privs : List (MethodName × Nat) := lw_privs_1 ++ (lw_privs_2 ++ (lw_privs_3))
def lw_tbl : List Cond := k2_sels lw_privs ++ tables_1
theorem lw_privs_ok : ∀ q ∈ lw_privs, lw_okq q := by
  show ∀ q ∈ lw_privs_1 ++ (lw_privs_2 ++ (lw_privs_3)), lw_okq q
  exact List.forall_mem_append.mpr ⟨lw_r1, List.forall_mem_append.mpr ⟨lw_r2, lw_r3⟩⟩
-- ===== names, fields: the rows that the claim's own NAMES text prints =====
def RX0 : String := "RationDesk$Atoms"
def TX0 : u_T := fun k => match k with
  | 0 => ("RationDesk$Atoms", "kind", "[I", true)
  | 1 => ("RationDesk$Atoms", "a", "[I", true)
  | 2 => ("RationDesk$Atoms", "b", "[I", true)
  | 3 => ("RationDesk$Atoms", "c", "[I", true)
  | 4 => ("RationDesk$Atoms", "d", "[I", true)
  | 5 => ("RationDesk$Atoms", "argument", "[I", true)
  | 6 => ("RationDesk$Atoms", "value", "[I", true)
  | _ => ("RationDesk$Atoms", "defined", "I", false)
def tyX0 : Nat → FieldType := fun k => match k with
  | 0 => .array .int
  | 1 => .array .int
  | 2 => .array .int
  | 3 => .array .int
  | 4 => .array .int
  | 5 => .array .int
  | 6 => .array .int
  | _ => .int
theorem nmX0 : ∀ a, a < 8 → ∀ b, b < 8 → a ≠ b → (TX0 a).2.1 ≠ (TX0 b).2.1 := by decide +kernel
theorem tyX0_ok : ∀ k, k < 8 → parseFieldDescriptor (TX0 k).2.2.1 = some (tyX0 k) := by decide +kernel
def RX1 : String := "RationDesk$Cells"
def TX1 : u_T := fun k => match k with
  | 0 => ("RationDesk$Cells", "open", "[Z", true)
  | 1 => ("RationDesk$Cells", "needed", "[I", true)
  | _ => ("RationDesk$Cells", "sought", "[I", true)
def tyX1 : Nat → FieldType := fun k => match k with
  | 0 => .array .boolean
  | 1 => .array .int
  | _ => .array .int
theorem nmX1 : ∀ a, a < 3 → ∀ b, b < 3 → a ≠ b → (TX1 a).2.1 ≠ (TX1 b).2.1 := by decide +kernel
theorem tyX1_ok : ∀ k, k < 3 → parseFieldDescriptor (TX1 k).2.2.1 = some (tyX1 k) := by decide +kernel
def RX2 : String := "RationDesk$ClauseStack"
def TX2 : u_T := fun k => match k with
  | 0 => ("RationDesk$ClauseStack", "literals", "[I", true)
  | 1 => ("RationDesk$ClauseStack", "marks", "[I", true)
  | 2 => ("RationDesk$ClauseStack", "size", "I", false)
  | _ => ("RationDesk$ClauseStack", "level", "I", false)
def tyX2 : Nat → FieldType := fun k => match k with
  | 0 => .array .int
  | 1 => .array .int
  | 2 => .int
  | _ => .int
theorem nmX2 : ∀ a, a < 4 → ∀ b, b < 4 → a ≠ b → (TX2 a).2.1 ≠ (TX2 b).2.1 := by decide +kernel
theorem tyX2_ok : ∀ k, k < 4 → parseFieldDescriptor (TX2 k).2.2.1 = some (tyX2 k) := by decide +kernel
def RX3 : String := "RationDesk$Corners"
def TX3 : u_T := fun k => match k with
  | 0 => ("RationDesk$Corners", "a", "[I", true)
  | 1 => ("RationDesk$Corners", "b", "[I", true)
  | 2 => ("RationDesk$Corners", "c", "[I", true)
  | 3 => ("RationDesk$Corners", "d", "[I", true)
  | 4 => ("RationDesk$Corners", "x", "[I", true)
  | 5 => ("RationDesk$Corners", "y", "[I", true)
  | 6 => ("RationDesk$Corners", "z", "[I", true)
  | 7 => ("RationDesk$Corners", "divisor", "[I", true)
  | 8 => ("RationDesk$Corners", "sides", "[I", true)
  | _ => ("RationDesk$Corners", "count", "I", false)
def tyX3 : Nat → FieldType := fun k => match k with
  | 0 => .array .int
  | 1 => .array .int
  | 2 => .array .int
  | 3 => .array .int
  | 4 => .array .int
  | 5 => .array .int
  | 6 => .array .int
  | 7 => .array .int
  | 8 => .array .int
  | _ => .int
theorem nmX3 : ∀ a, a < 10 → ∀ b, b < 10 → a ≠ b → (TX3 a).2.1 ≠ (TX3 b).2.1 := by decide +kernel
theorem tyX3_ok : ∀ k, k < 10 → parseFieldDescriptor (TX3 k).2.2.1 = some (tyX3 k) := by decide +kernel
def RX4 : String := "RationDesk$Peak"
def TX4 : u_T := fun k => match k with
  | 0 => ("RationDesk$Peak", "a", "I", false)
  | 1 => ("RationDesk$Peak", "b", "I", false)
  | 2 => ("RationDesk$Peak", "c", "I", false)
  | 3 => ("RationDesk$Peak", "over", "J", false)
  | 4 => ("RationDesk$Peak", "under", "J", false)
  | 5 => ("RationDesk$Peak", "reached", "Z", false)
  | 6 => ("RationDesk$Peak", "cellOver", "J", false)
  | 7 => ("RationDesk$Peak", "cellUnder", "J", false)
  | _ => ("RationDesk$Peak", "cellSides", "I", false)
def tyX4 : Nat → FieldType := fun k => match k with
  | 0 => .int
  | 1 => .int
  | 2 => .int
  | 3 => .long
  | 4 => .long
  | 5 => .boolean
  | 6 => .long
  | 7 => .long
  | _ => .int
theorem nmX4 : ∀ a, a < 9 → ∀ b, b < 9 → a ≠ b → (TX4 a).2.1 ≠ (TX4 b).2.1 := by decide +kernel
theorem tyX4_ok : ∀ k, k < 9 → parseFieldDescriptor (TX4 k).2.2.1 = some (tyX4 k) := by decide +kernel
def RX5 : String := "RationDesk"
def TX5 : u_T := fun k => match k with
  | 0 => ("RationDesk", "atoms", "LRationDesk$Atoms;", true)
  | 1 => ("RationDesk", "clauses", "LRationDesk$ClauseStack;", true)
  | 2 => ("RationDesk", "corners", "LRationDesk$Corners;", true)
  | 3 => ("RationDesk", "cells", "LRationDesk$Cells;", true)
  | 4 => ("RationDesk", "peak", "LRationDesk$Peak;", true)
  | 5 => ("RationDesk", "stale", "Z", false)
  | 6 => ("RationDesk", "topNumerator", "J", false)
  | _ => ("RationDesk", "topDenominator", "J", false)
def tyX5 : Nat → FieldType := fun k => match k with
  | 0 => .object "RationDesk$Atoms"
  | 1 => .object "RationDesk$ClauseStack"
  | 2 => .object "RationDesk$Corners"
  | 3 => .object "RationDesk$Cells"
  | 4 => .object "RationDesk$Peak"
  | 5 => .boolean
  | 6 => .long
  | _ => .long
theorem nmX5 : ∀ a, a < 8 → ∀ b, b < 8 → a ≠ b → (TX5 a).2.1 ≠ (TX5 b).2.1 := by decide +kernel
theorem tyX5_ok : ∀ k, k < 8 → parseFieldDescriptor (TX5 k).2.2.1 = some (tyX5 k) := by decide +kernel
def RX6 : String := "RationDeskModel"
def TX6 : u_T := fun k => match k with
  | 0 => ("RationDeskModel", "kind", "[I", true)
  | 1 => ("RationDeskModel", "number", "[I", true)
  | 2 => ("RationDeskModel", "clauses", "[I", true)
  | 3 => ("RationDeskModel", "marks", "[I", true)
  | 4 => ("RationDeskModel", "clauseCount", "I", false)
  | 5 => ("RationDeskModel", "level", "I", false)
  | 6 => ("RationDeskModel", "known", "Z", false)
  | 7 => ("RationDeskModel", "planes", "[I", true)
  | 8 => ("RationDeskModel", "planeCount", "I", false)
  | 9 => ("RationDeskModel", "corners", "[I", true)
  | 10 => ("RationDeskModel", "above", "[I", true)
  | 11 => ("RationDeskModel", "below", "[I", true)
  | 12 => ("RationDeskModel", "alike", "[I", true)
  | 13 => ("RationDeskModel", "cornerCount", "I", false)
  | 14 => ("RationDeskModel", "parts", "[I", true)
  | 15 => ("RationDeskModel", "possible", "[Z", true)
  | 16 => ("RationDeskModel", "up", "J", false)
  | 17 => ("RationDeskModel", "down", "J", false)
  | 18 => ("RationDeskModel", "reached", "Z", false)
  | 19 => ("RationDeskModel", "ofLess", "I", false)
  | 20 => ("RationDeskModel", "ofEqual", "I", false)
  | 21 => ("RationDeskModel", "bestUp", "J", false)
  | _ => ("RationDeskModel", "bestDown", "J", false)
def tyX6 : Nat → FieldType := fun k => match k with
  | 0 => .array .int
  | 1 => .array .int
  | 2 => .array .int
  | 3 => .array .int
  | 4 => .int
  | 5 => .int
  | 6 => .boolean
  | 7 => .array .int
  | 8 => .int
  | 9 => .array .int
  | 10 => .array .int
  | 11 => .array .int
  | 12 => .array .int
  | 13 => .int
  | 14 => .array .int
  | 15 => .array .boolean
  | 16 => .long
  | 17 => .long
  | 18 => .boolean
  | 19 => .int
  | 20 => .int
  | 21 => .long
  | _ => .long
theorem nmX6 : ∀ a, a < 23 → ∀ b, b < 23 → a ≠ b → (TX6 a).2.1 ≠ (TX6 b).2.1 := by decide +kernel
theorem tyX6_ok : ∀ k, k < 23 → parseFieldDescriptor (TX6 k).2.2.1 = some (tyX6 k) := by decide +kernel
abbrev vwCl : List vw_C := [(RX0, TX0, 8), (RX1, TX1, 3), (RX2, TX2, 4), (RX3, TX3, 10), (RX4, TX4, 9), (RX5, TX5, 8), (RX6, TX6, 23)]
abbrev MT : Type := MethodName × ByteArray × Nat × Option FieldType × Nat × Nat × Nat
def RN : Nat → String := fun c => match c with
  | 0 => "RationDesk$Atoms"
  | 1 => "RationDesk$Cells"
  | 2 => "RationDesk$ClauseStack"
  | 3 => "RationDesk$Corners"
  | 4 => "RationDesk$Peak"
  | 5 => "RationDesk"
  | 6 => "RationDeskModel"
  | _ => "RationDeskLaw"
def TT : Nat → u_T := fun c => match c with
  | 0 => TX0
  | 1 => TX1
  | 2 => TX2
  | 3 => TX3
  | 4 => TX4
  | 5 => TX5
  | _ => TX6
def nf : Nat → Nat := fun c => match c with
  | 0 => 8
  | 1 => 3
  | 2 => 4
  | 3 => 10
  | 4 => 9
  | 5 => 8
  | _ => 23
/-- the kind of a field: 0 int, 1 long, 2 reference, 3 boolean -/
def fty : Nat → Nat → Nat := fun c k => (match c with
  | 0 => [2, 2, 2, 2, 2, 2, 2, 0]
  | 1 => [2, 2, 2]
  | 2 => [2, 2, 0, 0]
  | 3 => [2, 2, 2, 2, 2, 2, 2, 2, 2, 0]
  | 4 => [0, 0, 0, 1, 1, 3, 1, 1, 0]
  | 5 => [2, 2, 2, 2, 2, 3, 1, 1]
  | _ => [2, 2, 2, 2, 0, 0, 3, 2, 0, 2, 2, 2, 2, 0, 2, 2, 1, 1, 3, 0, 0, 1, 1]
  ).getD k 0
/-- what the program makes, in the order in which it makes it: an object of a class, or a row of booleans or ints -/
def SHL : List (Nat ⊕ (Bool × Nat)) := [.inl 5, .inl 0, .inr (false, 5), .inr (false, 5), .inr (false, 5), .inr (false, 5), .inr (false, 5), .inr (false, 5), .inr (false, 5), .inl 2, .inr (false, 24), .inr (false, 4), .inl 3, .inr (false, 14), .inr (false, 14), .inr (false, 14), .inr (false, 14), .inr (false, 364), .inr (false, 364), .inr (false, 364), .inr (false, 364), .inr (false, 364), .inl 1, .inr (true, 160), .inr (false, 160), .inr (false, 160), .inl 4, .inl 6, .inr (false, 5), .inr (false, 20), .inr (false, 24), .inr (false, 4), .inr (false, 56), .inr (false, 1600), .inr (false, 400), .inr (false, 400), .inr (false, 400), .inr (false, 5), .inr (true, 160)]
abbrev mX0_init : MT := (⟨"RationDesk$Atoms", "<init>", "()V"⟩, prog_2_method_1_code, 1, none, 1, 16, 0)
abbrev mX0_defined : MT := (⟨"RationDesk$Atoms", "defined", "()I"⟩, prog_2_method_2_code, 1, (some .int), 0, 0, 0)
abbrev mX5_isAtom : MT := (⟨"RationDesk", "isAtom", "(I)Z"⟩, prog_1_method_16_code, 1, (some .boolean), 0, 0, 5)
abbrev mX0_setPlane : MT := (⟨"RationDesk$Atoms", "setPlane", "(IIIII)V"⟩, prog_2_method_5_code, 6, none, 1, 20, 0)
abbrev mX0_defineLinear : MT := (⟨"RationDesk$Atoms", "defineLinear", "(IIIIIZ)V"⟩, prog_2_method_3_code, 7, none, 2, 45, 0)
abbrev mX0_defineFact : MT := (⟨"RationDesk$Atoms", "defineFact", "(III)V"⟩, prog_2_method_4_code, 4, none, 2, 45, 0)
abbrev mX5_onPlane : MT := (⟨"RationDesk", "onPlane", "(I)I"⟩, prog_1_method_22_code, 1, (some .int), 0, 0, 5)
abbrev mX5_side : MT := (⟨"RationDesk", "side", "(II)I"⟩, prog_1_method_21_code, 2, (some .int), 0, 0, 5)
abbrev mX0_sidesNeeded : MT := (⟨"RationDesk$Atoms", "sidesNeeded", "(I)I"⟩, prog_2_method_6_code, 5, (some .int), 1, 21, 0)
abbrev mX0_sidesSought : MT := (⟨"RationDesk$Atoms", "sidesSought", "(I)I"⟩, prog_2_method_7_code, 5, (some .int), 1, 21, 0)
abbrev mX5_areEqual : MT := (⟨"RationDesk", "areEqual", "(III)Z"⟩, prog_1_method_23_code, 5, (some .boolean), 0, 0, 5)
abbrev mX0_contradict : MT := (⟨"RationDesk$Atoms", "contradict", "(IIII)Z"⟩, prog_2_method_9_code, 7, (some .boolean), 1, 24, 0)
abbrev mX0_hasFunction : MT := (⟨"RationDesk$Atoms", "hasFunction", "(II)Z"⟩, prog_2_method_8_code, 5, (some .boolean), 2, 50, 0)
abbrev mX1_init : MT := (⟨"RationDesk$Cells", "<init>", "()V"⟩, prog_3_method_1_code, 1, none, 1, 16, 1)
abbrev mX1_cellOf : MT := (⟨"RationDesk$Cells", "cellOf", "(II)I"⟩, prog_3_method_4_code, 2, (some .int), 0, 0, 1)
abbrev mX1_isCell : MT := (⟨"RationDesk$Cells", "isCell", "(I)Z"⟩, prog_3_method_5_code, 1, (some .boolean), 0, 0, 1)
abbrev mX1_pairsNeeded : MT := (⟨"RationDesk$Cells", "pairsNeeded", "(I)I"⟩, prog_3_method_10_code, 3, (some .int), 1, 24, 1)
abbrev mX1_pairsSought : MT := (⟨"RationDesk$Cells", "pairsSought", "(I)I"⟩, prog_3_method_11_code, 3, (some .int), 1, 24, 1)
abbrev mX3_havePoint : MT := (⟨"RationDesk$Corners", "havePoint", "(II)Z"⟩, prog_5_method_7_code, 5, (some .boolean), 0, 0, 3)
abbrev mX1_rebuildCell : MT := (⟨"RationDesk$Cells", "rebuildCell", "(IILRationDesk$Atoms;LRationDesk$Corners;)V"⟩, prog_3_method_3_code, 6, none, 3, 74, 1)
abbrev mX1_rebuild : MT := (⟨"RationDesk$Cells", "rebuild", "(LRationDesk$Atoms;LRationDesk$Corners;)V"⟩, prog_3_method_2_code, 5, none, 4, 99, 1)
abbrev mX1_isOpen : MT := (⟨"RationDesk$Cells", "isOpen", "(I)Z"⟩, prog_3_method_6_code, 2, (some .boolean), 1, 20, 1)
abbrev mX1_neededIn : MT := (⟨"RationDesk$Cells", "neededIn", "(I)I"⟩, prog_3_method_7_code, 2, (some .int), 1, 20, 1)
abbrev mX1_soughtIn : MT := (⟨"RationDesk$Cells", "soughtIn", "(I)I"⟩, prog_3_method_8_code, 2, (some .int), 1, 20, 1)
abbrev mX1_isOpenSomewhere : MT := (⟨"RationDesk$Cells", "isOpenSomewhere", "(I)Z"⟩, prog_3_method_9_code, 3, (some .boolean), 2, 41, 1)
abbrev mX2_init : MT := (⟨"RationDesk$ClauseStack", "<init>", "()V"⟩, prog_4_method_1_code, 1, none, 1, 16, 2)
abbrev mX2_size : MT := (⟨"RationDesk$ClauseStack", "size", "()I"⟩, prog_4_method_2_code, 1, (some .int), 0, 0, 2)
abbrev mX2_level : MT := (⟨"RationDesk$ClauseStack", "level", "()I"⟩, prog_4_method_3_code, 1, (some .int), 0, 0, 2)
abbrev mX2_add : MT := (⟨"RationDesk$ClauseStack", "add", "(III)Z"⟩, prog_4_method_4_code, 5, (some .boolean), 0, 0, 2)
abbrev mX2_raise : MT := (⟨"RationDesk$ClauseStack", "raise", "()Z"⟩, prog_4_method_5_code, 1, (some .boolean), 0, 0, 2)
abbrev mX2_lower : MT := (⟨"RationDesk$ClauseStack", "lower", "()Z"⟩, prog_4_method_6_code, 1, (some .boolean), 0, 0, 2)
abbrev mX5_holdsIn : MT := (⟨"RationDesk", "holdsIn", "(II)Z"⟩, prog_1_method_20_code, 3, (some .boolean), 0, 0, 5)
abbrev mX2_isSatisfiedBy : MT := (⟨"RationDesk$ClauseStack", "isSatisfiedBy", "(II)Z"⟩, prog_4_method_8_code, 4, (some .boolean), 1, 22, 2)
abbrev mX2_areSatisfiedBy : MT := (⟨"RationDesk$ClauseStack", "areSatisfiedBy", "(I)Z"⟩, prog_4_method_7_code, 3, (some .boolean), 2, 45, 2)
abbrev mX3_addTo : MT := (⟨"RationDesk$Corners", "addTo", "(III)V"⟩, prog_5_method_2_code, 4, none, 0, 0, 3)
abbrev mX3_init : MT := (⟨"RationDesk$Corners", "<init>", "()V"⟩, prog_5_method_1_code, 2, none, 1, 23, 3)
abbrev mX3_count : MT := (⟨"RationDesk$Corners", "count", "()I"⟩, prog_5_method_3_code, 1, (some .int), 0, 0, 3)
abbrev mX3_sidesOf : MT := (⟨"RationDesk$Corners", "sidesOf", "(I)I"⟩, prog_5_method_4_code, 2, (some .int), 0, 0, 3)
abbrev mX3_divisorOf : MT := (⟨"RationDesk$Corners", "divisorOf", "(I)I"⟩, prog_5_method_5_code, 2, (some .int), 0, 0, 3)
abbrev mX3_sumAt : MT := (⟨"RationDesk$Corners", "sumAt", "(IIII)J"⟩, prog_5_method_6_code, 5, (some .long), 0, 0, 3)
abbrev mX3_isPlane : MT := (⟨"RationDesk$Corners", "isPlane", "(I)Z"⟩, prog_5_method_11_code, 1, (some .boolean), 0, 0, 3)
abbrev mX3_determinant : MT := (⟨"RationDesk$Corners", "determinant", "([I[I[IIII)I"⟩, prog_5_method_10_code, 6, (some .int), 1, 20, 3)
abbrev mX3_findSides : MT := (⟨"RationDesk$Corners", "findSides", "(IIII)I"⟩, prog_5_method_13_code, 8, (some .int), 1, 21, 3)
abbrev mX3_keep : MT := (⟨"RationDesk$Corners", "keep", "(IIII)V"⟩, prog_5_method_12_code, 5, none, 2, 48, 3)
abbrev mX5_isWithin : MT := (⟨"RationDesk", "isWithin", "(II)Z"⟩, prog_1_method_13_code, 2, (some .boolean), 0, 0, 5)
abbrev mX3_meet : MT := (⟨"RationDesk$Corners", "meet", "(III)V"⟩, prog_5_method_9_code, 11, none, 3, 72, 3)
abbrev mX3_rebuild : MT := (⟨"RationDesk$Corners", "rebuild", "(LRationDesk$Atoms;)V"⟩, prog_5_method_8_code, 5, none, 4, 102, 3)
abbrev mX4_init : MT := (⟨"RationDesk$Peak", "<init>", "()V"⟩, prog_6_method_1_code, 1, none, 1, 16, 4)
abbrev mX4_start : MT := (⟨"RationDesk$Peak", "start", "(III)V"⟩, prog_6_method_2_code, 4, none, 0, 0, 4)
abbrev mX4_isFound : MT := (⟨"RationDesk$Peak", "isFound", "()Z"⟩, prog_6_method_3_code, 1, (some .boolean), 0, 0, 4)
abbrev mX4_isReached : MT := (⟨"RationDesk$Peak", "isReached", "()Z"⟩, prog_6_method_4_code, 1, (some .boolean), 0, 0, 4)
abbrev mX4_isAtMost : MT := (⟨"RationDesk$Peak", "isAtMost", "(I)Z"⟩, prog_6_method_5_code, 2, (some .boolean), 0, 0, 4)
abbrev mX4_compare : MT := (⟨"RationDesk$Peak", "compare", "(JJJJ)J"⟩, prog_6_method_9_code, 8, (some .long), 0, 0, 4)
abbrev mX4_climbCorner : MT := (⟨"RationDesk$Peak", "climbCorner", "(JJI)V"⟩, prog_6_method_8_code, 8, none, 1, 27, 4)
abbrev mX4_climbCell : MT := (⟨"RationDesk$Peak", "climbCell", "(LRationDesk$Corners;I)V"⟩, prog_6_method_7_code, 5, none, 2, 54, 4)
abbrev mX4_include : MT := (⟨"RationDesk$Peak", "include", "(LRationDesk$Corners;II)V"⟩, prog_6_method_6_code, 7, none, 3, 78, 4)
abbrev mX4_commonDivisor : MT := (⟨"RationDesk$Peak", "commonDivisor", "(JJ)J"⟩, prog_6_method_12_code, 11, (some .long), 1, 17, 4)
abbrev mX4_reducedOver : MT := (⟨"RationDesk$Peak", "reducedOver", "()J"⟩, prog_6_method_10_code, 3, (some .long), 2, 47, 4)
abbrev mX4_reducedUnder : MT := (⟨"RationDesk$Peak", "reducedUnder", "()J"⟩, prog_6_method_11_code, 3, (some .long), 2, 47, 4)
abbrev mX5_init : MT := (⟨"RationDesk", "<init>", "()V"⟩, prog_1_method_1_code, 1, none, 2, 44, 5)
abbrev mX5_areFactors : MT := (⟨"RationDesk", "areFactors", "(III)Z"⟩, prog_1_method_14_code, 3, (some .boolean), 1, 21, 5)
abbrev mX5_isLimit : MT := (⟨"RationDesk", "isLimit", "(I)Z"⟩, prog_1_method_15_code, 1, (some .boolean), 1, 21, 5)
abbrev mX5_linear : MT := (⟨"RationDesk", "linear", "(IIIIIZ)Z"⟩, prog_1_method_2_code, 7, (some .boolean), 3, 71, 5)
abbrev mX5_isNumber : MT := (⟨"RationDesk", "isNumber", "(I)Z"⟩, prog_1_method_17_code, 1, (some .boolean), 0, 0, 5)
abbrev mX5_fact : MT := (⟨"RationDesk", "fact", "(III)Z"⟩, prog_1_method_3_code, 4, (some .boolean), 3, 68, 5)
abbrev mX5_isDefined : MT := (⟨"RationDesk", "isDefined", "(I)Z"⟩, prog_1_method_18_code, 2, (some .boolean), 1, 20, 5)
abbrev mX5_isDefinedOrAbsent : MT := (⟨"RationDesk", "isDefinedOrAbsent", "(I)Z"⟩, prog_1_method_19_code, 2, (some .boolean), 2, 41, 5)
abbrev mX5_clause : MT := (⟨"RationDesk", "clause", "(III)I"⟩, prog_1_method_4_code, 5, (some .int), 3, 62, 5)
abbrev mX5_push : MT := (⟨"RationDesk", "push", "()I"⟩, prog_1_method_5_code, 1, (some .int), 1, 20, 5)
abbrev mX5_pop : MT := (⟨"RationDesk", "pop", "()I"⟩, prog_1_method_6_code, 1, (some .int), 1, 20, 5)
abbrev mX5_isWorld : MT := (⟨"RationDesk", "isWorld", "(I)Z"⟩, prog_1_method_25_code, 2, (some .boolean), 3, 67, 5)
abbrev mX5_refresh : MT := (⟨"RationDesk", "refresh", "()V"⟩, prog_1_method_24_code, 1, none, 5, 126, 5)
abbrev mX5_worlds : MT := (⟨"RationDesk", "worlds", "()I"⟩, prog_1_method_7_code, 3, (some .int), 6, 146, 5)
abbrev mX5_world : MT := (⟨"RationDesk", "world", "(I)Z"⟩, prog_1_method_8_code, 2, (some .boolean), 6, 146, 5)
abbrev mX5_holds : MT := (⟨"RationDesk", "holds", "(I)I"⟩, prog_1_method_9_code, 6, (some .int), 6, 146, 5)
abbrev mX5_climbWorld : MT := (⟨"RationDesk", "climbWorld", "(I)V"⟩, prog_1_method_27_code, 4, none, 4, 104, 5)
abbrev mX5_climb : MT := (⟨"RationDesk", "climb", "(III)V"⟩, prog_1_method_26_code, 5, none, 5, 127, 5)
abbrev mX5_most : MT := (⟨"RationDesk", "most", "(III)I"⟩, prog_1_method_10_code, 4, (some .int), 6, 151, 5)
abbrev mX5_top : MT := (⟨"RationDesk", "top", "(I)J"⟩, prog_1_method_11_code, 2, (some .long), 0, 0, 5)
abbrev mX5_bounded : MT := (⟨"RationDesk", "bounded", "(IIII)Z"⟩, prog_1_method_12_code, 5, (some .boolean), 6, 151, 5)
abbrev mX6_init : MT := (⟨"RationDeskModel", "<init>", "()V"⟩, prog_8_method_1_code, 1, none, 1, 16, 6)
abbrev mX6_within : MT := (⟨"RationDeskModel", "within", "(III)Z"⟩, prog_8_method_2_code, 3, (some .boolean), 0, 0, 6)
abbrev mX6_isForm : MT := (⟨"RationDeskModel", "isForm", "(III)Z"⟩, prog_8_method_4_code, 3, (some .boolean), 1, 22, 6)
abbrev mX6_set : MT := (⟨"RationDeskModel", "set", "(IIIII)V"⟩, prog_8_method_5_code, 6, none, 0, 0, 6)
abbrev mX6_linear : MT := (⟨"RationDeskModel", "linear", "(IIIIIZ)Z"⟩, prog_8_method_3_code, 7, (some .boolean), 2, 44, 6)
abbrev mX6_fact : MT := (⟨"RationDeskModel", "fact", "(III)Z"⟩, prog_8_method_6_code, 4, (some .boolean), 1, 25, 6)
abbrev mX6_isLiteral : MT := (⟨"RationDeskModel", "isLiteral", "(I)Z"⟩, prog_8_method_7_code, 2, (some .boolean), 0, 0, 6)
abbrev mX6_clause : MT := (⟨"RationDeskModel", "clause", "(III)I"⟩, prog_8_method_8_code, 4, (some .int), 1, 21, 6)
abbrev mX6_push : MT := (⟨"RationDeskModel", "push", "()I"⟩, prog_8_method_9_code, 1, (some .int), 0, 0, 6)
abbrev mX6_pop : MT := (⟨"RationDeskModel", "pop", "()I"⟩, prog_8_method_10_code, 1, (some .int), 0, 0, 6)
abbrev mX6_plane : MT := (⟨"RationDeskModel", "plane", "(IIII)V"⟩, prog_8_method_11_code, 5, none, 0, 0, 6)
abbrev mX6_isLinear : MT := (⟨"RationDeskModel", "isLinear", "(I)Z"⟩, prog_8_method_13_code, 2, (some .boolean), 0, 0, 6)
abbrev mX6_allPlanes : MT := (⟨"RationDeskModel", "allPlanes", "()V"⟩, prog_8_method_12_code, 2, none, 1, 24, 6)
abbrev mX6_determinant : MT := (⟨"RationDeskModel", "determinant", "(IIIIII)I"⟩, prog_8_method_14_code, 10, (some .int), 0, 0, 6)
abbrev mX6_meet : MT := (⟨"RationDeskModel", "meet", "(III)V"⟩, prog_8_method_15_code, 12, none, 1, 29, 6)
abbrev mX6_ofKind : MT := (⟨"RationDeskModel", "ofKind", "(I)I"⟩, prog_8_method_16_code, 4, (some .int), 0, 0, 6)
abbrev mX6_defined : MT := (⟨"RationDeskModel", "defined", "()I"⟩, prog_8_method_17_code, 1, (some .int), 1, 23, 6)
abbrev mX6_same : MT := (⟨"RationDeskModel", "same", "(III)Z"⟩, prog_8_method_23_code, 3, (some .boolean), 0, 0, 6)
abbrev mX6_factsFit : MT := (⟨"RationDeskModel", "factsFit", "(II)Z"⟩, prog_8_method_22_code, 7, (some .boolean), 1, 22, 6)
abbrev mX6_meetAll : MT := (⟨"RationDeskModel", "meetAll", "(II)V"⟩, prog_8_method_19_code, 4, none, 2, 60, 6)
abbrev mX6_compare : MT := (⟨"RationDeskModel", "compare", "(IIII)I"⟩, prog_8_method_29_code, 11, (some .int), 0, 0, 6)
abbrev mX6_fits : MT := (⟨"RationDeskModel", "fits", "(III)Z"⟩, prog_8_method_20_code, 7, (some .boolean), 0, 0, 6)
abbrev mX6_open : MT := (⟨"RationDeskModel", "open", "(IIZIII)Z"⟩, prog_8_method_21_code, 12, (some .boolean), 1, 30, 6)
abbrev mX6_know : MT := (⟨"RationDeskModel", "know", "()V"⟩, prog_8_method_18_code, 3, none, 3, 83, 6)
abbrev mX6_satisfies : MT := (⟨"RationDeskModel", "satisfies", "(I)Z"⟩, prog_8_method_24_code, 5, (some .boolean), 0, 0, 6)
abbrev mX6_isWorld : MT := (⟨"RationDeskModel", "isWorld", "(I)Z"⟩, prog_8_method_25_code, 4, (some .boolean), 4, 105, 6)
abbrev mX6_worlds : MT := (⟨"RationDeskModel", "worlds", "()I"⟩, prog_8_method_26_code, 3, (some .int), 5, 128, 6)
abbrev mX6_world : MT := (⟨"RationDeskModel", "world", "(I)Z"⟩, prog_8_method_27_code, 3, (some .boolean), 5, 128, 6)
abbrev mX6_holds : MT := (⟨"RationDeskModel", "holds", "(I)I"⟩, prog_8_method_28_code, 5, (some .int), 5, 128, 6)
abbrev mX6_climb : MT := (⟨"RationDeskModel", "climb", "(III)Z"⟩, prog_8_method_30_code, 9, (some .boolean), 4, 105, 6)
abbrev mX6_most : MT := (⟨"RationDeskModel", "most", "(III)I"⟩, prog_8_method_31_code, 6, (some .int), 5, 133, 6)
abbrev mX6_divisor : MT := (⟨"RationDeskModel", "divisor", "(JJ)J"⟩, prog_8_method_32_code, 10, (some .long), 0, 0, 6)
abbrev mX6_top : MT := (⟨"RationDeskModel", "top", "(I)J"⟩, prog_8_method_33_code, 4, (some .long), 1, 29, 6)
abbrev mX6_bounded : MT := (⟨"RationDeskModel", "bounded", "(IIII)Z"⟩, prog_8_method_34_code, 5, (some .boolean), 5, 133, 6)
abbrev mX7_law : MT := (⟨"RationDeskLaw", "law", "([I)Z"⟩, code, 4, (some .boolean), 7, 175, 7)
/-- fields by the class and the entry of its pool: class, place, where the word stands, a nest mate's -/
def FL : List (Nat × Nat × Nat × Nat × Nat × Bool) := [(0, 9, 0, 0, 57, false), (0, 15, 0, 1, 58, false), (0, 18, 0, 2, 60, false), (0, 21, 0, 3, 62, false), (0, 24, 0, 4, 64, false), (0, 27, 0, 5, 66, false), (0, 30, 0, 6, 67, false), (0, 33, 0, 7, 68, false), (1, 9, 1, 0, 157, false), (1, 15, 1, 1, 158, false), (1, 19, 1, 2, 159, false), (2, 9, 2, 0, 93, false), (2, 15, 2, 1, 94, false), (2, 18, 2, 2, 95, false), (2, 22, 2, 3, 96, false), (3, 11, 3, 0, 120, false), (3, 15, 3, 1, 121, false), (3, 18, 3, 2, 122, false), (3, 21, 3, 3, 123, false), (3, 24, 3, 4, 124, false), (3, 27, 3, 5, 125, false), (3, 30, 3, 6, 126, false), (3, 33, 3, 7, 127, false), (3, 36, 3, 8, 128, false), (3, 39, 3, 9, 129, false), (3, 53, 0, 1, 59, true), (3, 56, 0, 2, 61, true), (3, 57, 0, 3, 63, true), (3, 58, 0, 4, 65, true), (4, 7, 4, 0, 174, false), (4, 13, 4, 1, 175, false), (4, 16, 4, 2, 176, false), (4, 19, 4, 3, 177, false), (4, 23, 4, 4, 178, false), (4, 26, 4, 5, 179, false), (4, 30, 4, 6, 180, false), (4, 33, 4, 7, 181, false), (4, 36, 4, 8, 182, false), (5, 12, 5, 0, 202, false), (5, 19, 5, 1, 203, false), (5, 26, 5, 2, 204, false), (5, 33, 5, 3, 205, false), (5, 40, 5, 4, 206, false), (5, 44, 5, 5, 207, false), (5, 48, 5, 6, 208, false), (5, 52, 5, 7, 209, false), (6, 7, 6, 0, 525, false), (6, 13, 6, 1, 526, false), (6, 16, 6, 2, 527, false), (6, 19, 6, 3, 528, false), (6, 22, 6, 7, 532, false), (6, 25, 6, 9, 534, false), (6, 28, 6, 10, 535, false), (6, 31, 6, 11, 536, false), (6, 34, 6, 12, 537, false), (6, 37, 6, 14, 539, false), (6, 40, 6, 15, 540, false), (6, 55, 6, 6, 531, false), (6, 63, 6, 4, 529, false), (6, 67, 6, 5, 530, false), (6, 70, 6, 8, 533, false), (6, 84, 6, 13, 538, false), (6, 114, 6, 19, 544, false), (6, 117, 6, 20, 545, false), (6, 139, 6, 17, 542, false), (6, 143, 6, 16, 541, false), (6, 146, 6, 21, 546, false), (6, 149, 6, 22, 547, false), (6, 155, 6, 18, 543, false)]
def SLT : List (Nat × Nat × Nat × Nat × Bool) := [(1, 61, 100, 367, true), (1, 64, 101, 368, true), (3, 43, 100, 112, true), (3, 50, 101, 118, true), (5, 135, 102, 372, false)]
def NLT : List (Nat × Nat × Nat × Nat × Nat × Nat) := [(5, 9, 0, 51, 52, 36), (5, 16, 2, 87, 88, 37), (5, 23, 3, 106, 107, 38), (5, 30, 1, 151, 152, 39), (5, 37, 4, 168, 169, 40), (7, 7, 5, 43, 44, 35), (7, 10, 6, 519, 520, 41)]
/-- calls: class, entry, kind (0 virtual, 1 nest virtual, 2 static, 3 nest static, 4 special, 5 nest special), the method, how many arguments, where the words stand -/
def CL : List (Nat × Nat × Nat × MT × Nat × Nat × Nat × Nat × Nat × Nat) := [(0, 37, 3, mX5_isAtom, 1, 247, 232, 0, 35, 233), (0, 41, 0, mX0_setPlane, 5, 248, 250, 1, 36, 251), (0, 45, 3, mX5_side, 2, 362, 342, 0, 35, 343), (0, 49, 3, mX5_onPlane, 1, 363, 339, 0, 35, 340), (0, 53, 0, mX0_contradict, 4, 387, 389, 9, 36, 390), (0, 57, 3, mX5_areEqual, 3, 391, 370, 0, 35, 371), (1, 22, 0, mX1_rebuildCell, 4, 348, 350, 8, 39, 351), (1, 26, 2, mX1_cellOf, 2, 352, 353, 0, 39, 354), (1, 30, 2, mX1_isCell, 1, 355, 356, 0, 39, 357), (1, 34, 0, mX0_sidesNeeded, 1, 358, 359, 360, 36, 361), (1, 40, 2, mX1_pairsNeeded, 1, 364, 365, 0, 39, 366), (1, 43, 0, mX0_sidesSought, 1, 375, 376, 377, 36, 378), (1, 46, 2, mX1_pairsSought, 1, 379, 380, 0, 39, 381), (1, 49, 0, mX0_hasFunction, 2, 383, 384, 385, 36, 386), (1, 53, 0, mX3_havePoint, 2, 392, 393, 394, 38, 395), (1, 58, 0, mX1_isOpen, 1, 404, 405, 406, 39, 407), (1, 67, 3, mX5_areEqual, 3, 369, 370, 0, 35, 371), (1, 71, 3, mX5_onPlane, 1, 374, 339, 0, 35, 340), (1, 74, 3, mX5_side, 2, 382, 342, 0, 35, 343), (2, 25, 0, mX2_isSatisfiedBy, 2, 412, 414, 11, 37, 415), (2, 29, 3, mX5_holdsIn, 2, 416, 417, 0, 35, 418), (3, 46, 0, mX3_addTo, 3, 114, 116, 0, 38, 117), (3, 59, 0, mX3_meet, 3, 319, 321, 5, 38, 322), (3, 62, 2, mX3_determinant, 6, 323, 324, 0, 38, 325), (3, 66, 3, mX5_isWithin, 2, 329, 238, 0, 35, 239), (3, 70, 0, mX3_keep, 4, 330, 332, 6, 38, 333), (3, 74, 2, mX3_isPlane, 1, 326, 327, 0, 38, 328), (3, 78, 0, mX3_findSides, 4, 334, 336, 7, 38, 337), (3, 82, 3, mX5_onPlane, 1, 338, 339, 0, 35, 340), (3, 86, 3, mX5_side, 2, 341, 342, 0, 35, 343), (4, 39, 0, mX4_climbCell, 2, 458, 460, 14, 40, 461), (4, 43, 2, mX4_compare, 4, 482, 483, 0, 40, 484), (4, 47, 0, mX3_count, 0, 462, 463, 464, 38, 465), (4, 53, 0, mX3_sidesOf, 1, 466, 467, 468, 38, 469), (4, 57, 0, mX3_sumAt, 4, 470, 471, 472, 38, 473), (4, 61, 0, mX3_divisorOf, 1, 474, 475, 476, 38, 477), (4, 64, 0, mX4_climbCorner, 3, 478, 480, 15, 40, 481), (4, 68, 2, mX4_commonDivisor, 2, 489, 490, 0, 40, 491), (5, 11, 5, mX0_init, 0, 53, 54, 0, 36, 55), (5, 18, 5, mX2_init, 0, 89, 90, 0, 37, 91), (5, 25, 4, mX3_init, 0, 108, 109, 0, 38, 110), (5, 32, 5, mX1_init, 0, 153, 154, 0, 39, 155), (5, 39, 5, mX4_init, 0, 170, 171, 0, 40, 172), (5, 55, 2, mX5_isAtom, 1, 231, 232, 0, 35, 233), (5, 59, 2, mX5_areFactors, 3, 234, 235, 0, 35, 236), (5, 63, 2, mX5_isLimit, 1, 240, 241, 0, 35, 242), (5, 66, 0, mX0_defineLinear, 6, 243, 244, 245, 36, 246), (5, 70, 2, mX5_isNumber, 1, 256, 257, 0, 35, 258), (5, 73, 0, mX0_defineFact, 3, 259, 260, 261, 36, 262), (5, 77, 0, mX5_isDefined, 1, 267, 269, 2, 35, 270), (5, 80, 0, mX5_isDefinedOrAbsent, 1, 275, 277, 3, 35, 278), (5, 83, 0, mX2_add, 3, 279, 280, 281, 37, 282), (5, 86, 0, mX2_size, 0, 283, 284, 285, 37, 286), (5, 90, 0, mX2_raise, 0, 291, 292, 293, 37, 294), (5, 94, 0, mX2_level, 0, 295, 296, 297, 37, 298), (5, 97, 0, mX2_lower, 0, 303, 304, 305, 37, 306), (5, 100, 0, mX5_refresh, 0, 311, 313, 4, 35, 314), (5, 103, 0, mX5_isWorld, 1, 396, 398, 10, 35, 399), (5, 106, 0, mX0_defined, 0, 271, 272, 273, 36, 274), (5, 109, 2, mX5_holdsIn, 2, 427, 417, 0, 35, 418), (5, 113, 0, mX5_climb, 3, 432, 434, 12, 35, 435), (5, 116, 0, mX4_reducedOver, 0, 485, 486, 487, 40, 488), (5, 120, 0, mX4_reducedUnder, 0, 495, 496, 497, 40, 498), (5, 123, 0, mX4_isFound, 0, 499, 500, 501, 40, 502), (5, 126, 0, mX4_isReached, 0, 503, 504, 505, 40, 506), (5, 129, 0, mX4_isAtMost, 1, 515, 516, 517, 40, 518), (5, 132, 2, mX5_isWithin, 2, 237, 238, 0, 35, 239), (5, 139, 0, mX3_rebuild, 1, 315, 316, 317, 38, 318), (5, 143, 0, mX1_rebuild, 2, 344, 345, 346, 39, 347), (5, 146, 0, mX1_isOpenSomewhere, 1, 400, 401, 402, 39, 403), (5, 149, 0, mX2_areSatisfiedBy, 1, 408, 409, 410, 37, 411), (5, 152, 0, mX4_start, 3, 436, 437, 438, 40, 439), (5, 155, 0, mX5_climbWorld, 1, 440, 442, 13, 35, 443), (5, 159, 2, mX1_cellOf, 2, 444, 353, 0, 39, 354), (5, 163, 0, mX1_isOpen, 1, 445, 405, 406, 39, 407), (5, 166, 0, mX1_neededIn, 1, 446, 447, 448, 39, 449), (5, 170, 0, mX1_soughtIn, 1, 450, 451, 452, 39, 453), (5, 173, 0, mX4_include, 3, 454, 455, 456, 40, 457), (6, 44, 2, mX6_within, 3, 599, 600, 0, 41, 601), (6, 48, 2, mX6_isForm, 3, 602, 603, 0, 41, 604), (6, 51, 0, mX6_set, 5, 605, 607, 16, 41, 608), (6, 59, 0, mX6_isLiteral, 1, 617, 619, 17, 41, 620), (6, 73, 0, mX6_plane, 4, 645, 647, 21, 41, 648), (6, 77, 0, mX6_isLinear, 1, 649, 651, 22, 41, 652), (6, 80, 0, mX6_determinant, 6, 661, 663, 25, 41, 664), (6, 87, 0, mX6_ofKind, 1, 669, 671, 27, 41, 672), (6, 91, 0, mX6_allPlanes, 0, 641, 643, 20, 41, 644), (6, 94, 0, mX6_meetAll, 2, 653, 655, 23, 41, 656), (6, 98, 0, mX6_defined, 0, 665, 667, 26, 41, 668), (6, 102, 0, mX6_factsFit, 2, 673, 675, 28, 41, 676), (6, 106, 0, mX6_open, 6, 680, 682, 29, 41, 683), (6, 110, 0, mX6_meet, 3, 657, 659, 24, 41, 660), (6, 120, 0, mX6_fits, 3, 684, 686, 30, 41, 687), (6, 123, 0, mX6_compare, 4, 688, 690, 31, 41, 691), (6, 127, 2, mX6_same, 3, 677, 678, 0, 41, 679), (6, 130, 0, mX6_know, 0, 637, 639, 19, 41, 640), (6, 133, 0, mX6_satisfies, 1, 692, 694, 32, 41, 695), (6, 136, 0, mX6_isWorld, 1, 633, 635, 18, 41, 636), (6, 152, 0, mX6_climb, 3, 708, 710, 33, 41, 711), (6, 158, 2, mX6_divisor, 2, 716, 717, 0, 41, 718), (7, 9, 4, mX5_init, 0, 45, 46, 0, 35, 47), (7, 12, 4, mX6_init, 0, 521, 522, 0, 41, 523), (7, 13, 0, mX5_linear, 6, 227, 228, 229, 35, 230), (7, 17, 0, mX6_linear, 6, 595, 596, 597, 41, 598), (7, 18, 0, mX5_fact, 3, 252, 253, 254, 35, 255), (7, 22, 0, mX6_fact, 3, 609, 610, 611, 41, 612), (7, 23, 0, mX5_clause, 3, 263, 264, 265, 35, 266), (7, 27, 0, mX6_clause, 3, 613, 614, 615, 41, 616), (7, 28, 0, mX5_push, 0, 287, 288, 289, 35, 290), (7, 32, 0, mX6_push, 0, 621, 622, 623, 41, 624), (7, 33, 0, mX5_pop, 0, 299, 300, 301, 35, 302), (7, 36, 0, mX6_pop, 0, 625, 626, 627, 41, 628), (7, 37, 0, mX5_worlds, 0, 307, 308, 309, 35, 310), (7, 40, 0, mX6_worlds, 0, 629, 630, 631, 41, 632), (7, 41, 0, mX5_world, 1, 419, 420, 421, 35, 422), (7, 45, 0, mX6_world, 1, 696, 697, 698, 41, 699), (7, 46, 0, mX5_holds, 1, 423, 424, 425, 35, 426), (7, 50, 0, mX6_holds, 1, 700, 701, 702, 41, 703), (7, 51, 0, mX5_most, 3, 428, 429, 430, 35, 431), (7, 54, 0, mX6_most, 3, 704, 705, 706, 41, 707), (7, 55, 0, mX5_top, 1, 507, 508, 509, 35, 510), (7, 59, 0, mX6_top, 1, 712, 713, 714, 41, 715), (7, 60, 0, mX5_bounded, 4, 511, 512, 513, 35, 514), (7, 64, 0, mX6_bounded, 4, 719, 720, 721, 41, 722)]
def OLT : List (Nat × Nat × Nat) := [(0, 3, 56), (1, 3, 156), (2, 3, 92), (3, 3, 111), (4, 1, 173), (5, 3, 48), (6, 1, 524)]
-- instanceMethod 49 code 50
-- abs: class 4 entry 72 at 492 static 493 init 42 code 494
-- arrayClass: arrayClass Jvm.ClassFile.FieldType.int 86, arrayClass Jvm.ClassFile.FieldType.boolean 167
-- laysStatic: laysStatic "RationDesk" "PAIR_LEFT" "[I" 113, laysStatic "RationDesk" "PAIR_RIGHT" "[I" 119, laysStatic "RationDesk" "GROUPS" "[I" 373
