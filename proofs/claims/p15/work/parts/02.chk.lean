-- what the tables of part 01 say stands among the words
def GW : List Cond := lw_tbl.filter goodWord
theorem gw_at {i : Nat} {w : Cond} (h : lw_tbl[i]? = some w) (hg : goodWord w = true) : w ∈ GW := List.mem_filter.mpr ⟨List.mem_of_getElem? h, hg⟩
theorem gw_good : ∀ w ∈ GW, w ∈ GW ∧ ((w.onTables && w.keeps) = true ∨ ∃ ty, w = .arrayClass ty) := fun w h => ⟨h, good_of_word (List.mem_filter.mp h).2⟩
/-- a nest mate's words, which aren't among the good ones -/
def NW : List Cond := lw_tbl.filter (fun w => match w with
  | .fieldLinkNest .. => true
  | .methodLinkNest .. => true
  | _ => false)
theorem nw_f {i : Nat} {a b n d h : String} {k : Nat} (e : lw_tbl[i]? = some (.fieldLinkNest a k b n d h)) : Cond.fieldLinkNest a k b n d h ∈ NW := List.mem_filter.mpr ⟨List.mem_of_getElem? e, rfl⟩
theorem nw_m {i : Nat} {a h : String} {y : MethodName} {k : Nat} (e : lw_tbl[i]? = some (.methodLinkNest a k y h)) : Cond.methodLinkNest a k y h ∈ NW := List.mem_filter.mpr ⟨List.mem_of_getElem? e, rfl⟩
def flW (e : Nat × Nat × Nat × Nat × Nat × Bool) : Cond :=
  if e.2.2.2.2.2 = true then .fieldLinkNest (RN e.1) e.2.1 (TT e.2.2.1 e.2.2.2.1).1 (TT e.2.2.1 e.2.2.2.1).2.1 (TT e.2.2.1 e.2.2.2.1).2.2.1 "RationDesk"
  else .fieldLink (RN e.1) e.2.1 (TT e.2.2.1 e.2.2.2.1).1 (TT e.2.2.1 e.2.2.2.1).2.1 (TT e.2.2.1 e.2.2.2.1).2.2.1
theorem FL_ok : FL.all (fun e => decide (lw_tbl[e.2.2.2.2.1]? = some (flW e)) && decide (e.2.2.1 < 6) && decide (e.2.2.2.1 < nf e.2.2.1)) = true := by decide +kernel
def slName (t : Nat) : String := match t with
  | 100 => "PAIR_LEFT"
  | 101 => "PAIR_RIGHT"
  | _ => "GROUPS"
def slW (e : Nat × Nat × Nat × Nat × Bool) : Cond :=
  if e.2.2.2.2 = true then .fieldLinkNest (RN e.1) e.2.1 "RationDesk" (slName e.2.2.1) "[I" "RationDesk"
  else .fieldLink (RN e.1) e.2.1 "RationDesk" (slName e.2.2.1) "[I"
theorem SLT_ok : SLT.all (fun e => decide (lw_tbl[e.2.2.2.1]? = some (slW e)) && decide (e.2.2.1 = 100 ∨ e.2.2.1 = 101 ∨ e.2.2.1 = 102)) = true := by decide +kernel
theorem NLT_ok : NLT.all (fun e => decide (lw_tbl[e.2.2.2.1]? = some (.classLink (RN e.1) e.2.1 (RN e.2.2.1))) && decide (lw_tbl[e.2.2.2.2.1]? = some (.instantiable (RN e.2.2.1) (nf e.2.2.1))) && decide (lw_tbl[e.2.2.2.2.2]? = some (.initialized (RN e.2.2.1))) && decide (e.2.2.1 < 6)) = true := by decide +kernel
def clOk (e : Nat × Nat × Nat × MT × Nat × Nat × Nat × Nat × Nat × Nat) : Bool := match e with
  | (c, idx, kind, Y, n, p1, p2, p3, p4, p5) =>
    decide (lw_tbl[p1]? = some (if kind % 2 = 1 then .methodLinkNest (RN c) idx Y.1 "RationDesk" else .methodLink (RN c) idx Y.1)) &&
    decide (lw_tbl[p2]? = some (if kind / 2 = 1 then .static Y.1 else .instanceMethod Y.1)) &&
    (kind / 2 != 0 || decide (lw_tbl[p3]? = some (.selects Y.1.cls Y.1 Y.1))) &&
    decide (lw_tbl[p4]? = some (.initialized Y.1.cls)) &&
    decide (Y.1.cls = RN Y.2.2.2.2.2.2) && (kind / 2 == 1 || decide (Y.2.2.2.2.2.2 < 6)) &&
    decide (Y.1.cls ≠ "java/lang/invoke/MethodHandle" ∧ Y.1.cls ≠ "java/lang/invoke/VarHandle" ∧ (parseMethodDescriptor Y.1.desc).map (fun d => d.parameters.length) = some n) &&
    (kind / 2 != 2 || (decide (Y.1.name = "<init>") && decide (Y.2.2.2.1 = none)))
theorem CL_ok : CL.all clOk = true := by decide +kernel
def objWord (e : Nat × Nat × Nat) : Cond := .methodLink (RN e.1) e.2.1 objectInit
theorem OLT_ok : OLT.all (fun e => decide (lw_tbl[e.2.2]? = some (objWord e))) = true := by decide +kernel
theorem obj_ok : lw_tbl[30]? = some (.instanceMethod objectInit) ∧ lw_tbl[31]? = some (.code objectInit ⟨#[0xb1]⟩ 1 none) := by decide +kernel
theorem lay_ok : ∀ c, c < 6 → ∀ w ∈ u_ws (RN c) (TT c) (nf c), w ∈ GW := by
  have h : (List.range 6).all (fun c => (u_ws (RN c) (TT c) (nf c)).all (fun w => decide (w ∈ GW))) = true := by decide +kernel
  intro c hc w hw
  have h1 := List.all_eq_true.mp h c (List.mem_range.mpr hc)
  have h2 := List.all_eq_true.mp h1 w hw
  simpa using h2
theorem cl_at : ∀ c, c < 6 → vwCl[c]? = some (RN c, TT c, nf c) := by
  intro c hc
  rcases (show c = 0 ∨ c = 1 ∨ c = 2 ∨ c = 3 ∨ c = 4 ∨ c = 5 by omega) with rfl | rfl | rfl | rfl | rfl | rfl <;> rfl
theorem nm_ok : ∀ c, c < 6 → ∀ a, a < nf c → ∀ b, b < nf c → a ≠ b → (TT c a).2.1 ≠ (TT c b).2.1 := by decide +kernel
def tyT (c k : Nat) : FieldType := ((parseFieldDescriptor (TT c k).2.2.1)).getD .int
theorem tyT_ok : ∀ c, c < 6 → ∀ k, k < nf c → parseFieldDescriptor (TT c k).2.2.1 = some (tyT c k) := by decide +kernel
theorem arr_ok : lw_tbl[67]? = some (.arrayClass .int) ∧ lw_tbl[148]? = some (.arrayClass .boolean) := by decide +kernel
def lcv (k : Nat) : Int64 := match k with
  | 0 => -99
  | 1 => 99
  | 2 => -98
  | _ => 100
theorem LCT_ok : LCT.all (fun e => decide (lw_tbl[e.2.2.2]? = some (.constantLong (RN e.1) e.2.1 (lcv e.2.2.1)))) = true := by decide +kernel
set_option maxRecDepth 20000 in
theorem cwX0_init : Cond.code mX0_init.1 mX0_init.2.1 mX0_init.2.2.1 mX0_init.2.2.2.1 ∈ GW := gw_at (i := 36) rfl rfl
set_option maxRecDepth 20000 in
theorem cwX0_defined : Cond.code mX0_defined.1 mX0_defined.2.1 mX0_defined.2.2.1 mX0_defined.2.2.2.1 ∈ GW := gw_at (i := 309) rfl rfl
set_option maxRecDepth 20000 in
theorem cwX5_isAtom : Cond.code mX5_isAtom.1 mX5_isAtom.2.1 mX5_isAtom.2.2.1 mX5_isAtom.2.2.2.1 ∈ GW := gw_at (i := 296) rfl rfl
set_option maxRecDepth 20000 in
theorem cwX0_setPlane : Cond.code mX0_setPlane.1 mX0_setPlane.2.1 mX0_setPlane.2.2.1 mX0_setPlane.2.2.2.1 ∈ GW := gw_at (i := 350) rfl rfl
set_option maxRecDepth 20000 in
theorem cwX0_defineLinear : Cond.code mX0_defineLinear.1 mX0_defineLinear.2.1 mX0_defineLinear.2.2.1 mX0_defineLinear.2.2.2.1 ∈ GW := gw_at (i := 368) rfl rfl
set_option maxRecDepth 20000 in
theorem cwX0_defineFact : Cond.code mX0_defineFact.1 mX0_defineFact.2.1 mX0_defineFact.2.2.1 mX0_defineFact.2.2.2.1 ∈ GW := gw_at (i := 346) rfl rfl
set_option maxRecDepth 20000 in
theorem cwX5_onPlane : Cond.code mX5_onPlane.1 mX5_onPlane.2.1 mX5_onPlane.2.2.1 mX5_onPlane.2.2.2.1 ∈ GW := gw_at (i := 243) rfl rfl
set_option maxRecDepth 20000 in
theorem cwX5_side : Cond.code mX5_side.1 mX5_side.2.1 mX5_side.2.2.1 mX5_side.2.2.2.1 ∈ GW := gw_at (i := 246) rfl rfl
set_option maxRecDepth 20000 in
theorem cwX0_sidesNeeded : Cond.code mX0_sidesNeeded.1 mX0_sidesNeeded.2.1 mX0_sidesNeeded.2.2.1 mX0_sidesNeeded.2.2.2.1 ∈ GW := gw_at (i := 264) rfl rfl
set_option maxRecDepth 20000 in
theorem cwX0_sidesSought : Cond.code mX0_sidesSought.1 mX0_sidesSought.2.1 mX0_sidesSought.2.2.1 mX0_sidesSought.2.2.2.1 ∈ GW := gw_at (i := 281) rfl rfl
set_option maxRecDepth 20000 in
theorem cwX5_areEqual : Cond.code mX5_areEqual.1 mX5_areEqual.2.1 mX5_areEqual.2.2.1 mX5_areEqual.2.2.2.1 ∈ GW := gw_at (i := 274) rfl rfl
set_option maxRecDepth 20000 in
theorem cwX0_contradict : Cond.code mX0_contradict.1 mX0_contradict.2.1 mX0_contradict.2.2.1 mX0_contradict.2.2.2.1 ∈ GW := gw_at (i := 293) rfl rfl
set_option maxRecDepth 20000 in
theorem cwX0_hasFunction : Cond.code mX0_hasFunction.1 mX0_hasFunction.2.1 mX0_hasFunction.2.2.1 mX0_hasFunction.2.2.2.1 ∈ GW := gw_at (i := 289) rfl rfl
set_option maxRecDepth 20000 in
theorem cwX1_init : Cond.code mX1_init.1 mX1_init.2.1 mX1_init.2.2.1 mX1_init.2.2.2.1 ∈ GW := gw_at (i := 136) rfl rfl
set_option maxRecDepth 20000 in
theorem cwX1_cellOf : Cond.code mX1_cellOf.1 mX1_cellOf.2.1 mX1_cellOf.2.2.1 mX1_cellOf.2.2.2.1 ∈ GW := gw_at (i := 257) rfl rfl
set_option maxRecDepth 20000 in
theorem cwX1_isCell : Cond.code mX1_isCell.1 mX1_isCell.2.1 mX1_isCell.2.2.1 mX1_isCell.2.2.2.1 ∈ GW := gw_at (i := 260) rfl rfl
set_option maxRecDepth 20000 in
theorem cwX1_pairsNeeded : Cond.code mX1_pairsNeeded.1 mX1_pairsNeeded.2.1 mX1_pairsNeeded.2.2.1 mX1_pairsNeeded.2.2.2.1 ∈ GW := gw_at (i := 269) rfl rfl
set_option maxRecDepth 20000 in
theorem cwX1_pairsSought : Cond.code mX1_pairsSought.1 mX1_pairsSought.2.1 mX1_pairsSought.2.2.1 mX1_pairsSought.2.2.2.1 ∈ GW := gw_at (i := 284) rfl rfl
set_option maxRecDepth 20000 in
theorem cwX3_havePoint : Cond.code mX3_havePoint.1 mX3_havePoint.2.1 mX3_havePoint.2.2.1 mX3_havePoint.2.2.2.1 ∈ GW := gw_at (i := 301) rfl rfl
set_option maxRecDepth 20000 in
theorem cwX1_rebuildCell : Cond.code mX1_rebuildCell.1 mX1_rebuildCell.2.1 mX1_rebuildCell.2.2.1 mX1_rebuildCell.2.2.2.1 ∈ GW := gw_at (i := 254) rfl rfl
set_option maxRecDepth 20000 in
theorem cwX1_rebuild : Cond.code mX1_rebuild.1 mX1_rebuild.2.1 mX1_rebuild.2.2.1 mX1_rebuild.2.2.2.1 ∈ GW := gw_at (i := 250) rfl rfl
set_option maxRecDepth 20000 in
theorem cwX1_isOpen : Cond.code mX1_isOpen.1 mX1_isOpen.2.1 mX1_isOpen.2.2.1 mX1_isOpen.2.2.2.1 ∈ GW := gw_at (i := 317) rfl rfl
set_option maxRecDepth 20000 in
theorem cwX1_neededIn : Cond.code mX1_neededIn.1 mX1_neededIn.2.1 mX1_neededIn.2.2.1 mX1_neededIn.2.2.2.1 ∈ GW := gw_at (i := 460) rfl rfl
set_option maxRecDepth 20000 in
theorem cwX1_soughtIn : Cond.code mX1_soughtIn.1 mX1_soughtIn.2.1 mX1_soughtIn.2.2.1 mX1_soughtIn.2.2.2.1 ∈ GW := gw_at (i := 464) rfl rfl
set_option maxRecDepth 20000 in
theorem cwX1_isOpenSomewhere : Cond.code mX1_isOpenSomewhere.1 mX1_isOpenSomewhere.2.1 mX1_isOpenSomewhere.2.2.1 mX1_isOpenSomewhere.2.2.2.1 ∈ GW := gw_at (i := 313) rfl rfl
set_option maxRecDepth 20000 in
theorem cwX2_init : Cond.code mX2_init.1 mX2_init.2.1 mX2_init.2.2.1 mX2_init.2.2.2.1 ∈ GW := gw_at (i := 72) rfl rfl
set_option maxRecDepth 20000 in
theorem cwX2_size : Cond.code mX2_size.1 mX2_size.2.1 mX2_size.2.2.1 mX2_size.2.2.2.1 ∈ GW := gw_at (i := 391) rfl rfl
set_option maxRecDepth 20000 in
theorem cwX2_level : Cond.code mX2_level.1 mX2_level.2.1 mX2_level.2.2.1 mX2_level.2.2.2.1 ∈ GW := gw_at (i := 422) rfl rfl
set_option maxRecDepth 20000 in
theorem cwX2_add : Cond.code mX2_add.1 mX2_add.2.1 mX2_add.2.2.1 mX2_add.2.2.2.1 ∈ GW := gw_at (i := 387) rfl rfl
set_option maxRecDepth 20000 in
theorem cwX2_raise : Cond.code mX2_raise.1 mX2_raise.2.1 mX2_raise.2.2.1 mX2_raise.2.2.2.1 ∈ GW := gw_at (i := 418) rfl rfl
set_option maxRecDepth 20000 in
theorem cwX2_lower : Cond.code mX2_lower.1 mX2_lower.2.1 mX2_lower.2.2.1 mX2_lower.2.2.2.1 ∈ GW := gw_at (i := 435) rfl rfl
set_option maxRecDepth 20000 in
theorem cwX5_holdsIn : Cond.code mX5_holdsIn.1 mX5_holdsIn.2.1 mX5_holdsIn.2.2.1 mX5_holdsIn.2.2.2.1 ∈ GW := gw_at (i := 328) rfl rfl
set_option maxRecDepth 20000 in
theorem cwX2_isSatisfiedBy : Cond.code mX2_isSatisfiedBy.1 mX2_isSatisfiedBy.2.1 mX2_isSatisfiedBy.2.2.1 mX2_isSatisfiedBy.2.2.2.1 ∈ GW := gw_at (i := 325) rfl rfl
set_option maxRecDepth 20000 in
theorem cwX2_areSatisfiedBy : Cond.code mX2_areSatisfiedBy.1 mX2_areSatisfiedBy.2.1 mX2_areSatisfiedBy.2.2.1 mX2_areSatisfiedBy.2.2.2.1 ∈ GW := gw_at (i := 321) rfl rfl
set_option maxRecDepth 20000 in
theorem cwX3_addTo : Cond.code mX3_addTo.1 mX3_addTo.2.1 mX3_addTo.2.2.1 mX3_addTo.2.2.2.1 ∈ GW := gw_at (i := 98) rfl rfl
set_option maxRecDepth 20000 in
theorem cwX3_init : Cond.code mX3_init.1 mX3_init.2.1 mX3_init.2.2.1 mX3_init.2.2.2.1 ∈ GW := gw_at (i := 91) rfl rfl
set_option maxRecDepth 20000 in
theorem cwX3_count : Cond.code mX3_count.1 mX3_count.2.1 mX3_count.2.2.1 mX3_count.2.2.2.1 ∈ GW := gw_at (i := 476) rfl rfl
set_option maxRecDepth 20000 in
theorem cwX3_sidesOf : Cond.code mX3_sidesOf.1 mX3_sidesOf.2.1 mX3_sidesOf.2.2.1 mX3_sidesOf.2.2.2.1 ∈ GW := gw_at (i := 480) rfl rfl
set_option maxRecDepth 20000 in
theorem cwX3_divisorOf : Cond.code mX3_divisorOf.1 mX3_divisorOf.2.1 mX3_divisorOf.2.2.1 mX3_divisorOf.2.2.2.1 ∈ GW := gw_at (i := 488) rfl rfl
set_option maxRecDepth 20000 in
theorem cwX3_sumAt : Cond.code mX3_sumAt.1 mX3_sumAt.2.1 mX3_sumAt.2.2.1 mX3_sumAt.2.2.2.1 ∈ GW := gw_at (i := 484) rfl rfl
set_option maxRecDepth 20000 in
theorem cwX3_isPlane : Cond.code mX3_isPlane.1 mX3_isPlane.2.1 mX3_isPlane.2.2.1 mX3_isPlane.2.2.2.1 ∈ GW := gw_at (i := 229) rfl rfl
set_option maxRecDepth 20000 in
theorem cwX3_determinant : Cond.code mX3_determinant.1 mX3_determinant.2.1 mX3_determinant.2.2.1 mX3_determinant.2.2.2.1 ∈ GW := gw_at (i := 226) rfl rfl
set_option maxRecDepth 20000 in
theorem cwX3_findSides : Cond.code mX3_findSides.1 mX3_findSides.2.1 mX3_findSides.2.2.1 mX3_findSides.2.2.2.1 ∈ GW := gw_at (i := 240) rfl rfl
set_option maxRecDepth 20000 in
theorem cwX3_keep : Cond.code mX3_keep.1 mX3_keep.2.1 mX3_keep.2.2.1 mX3_keep.2.2.2.1 ∈ GW := gw_at (i := 236) rfl rfl
set_option maxRecDepth 20000 in
theorem cwX5_isWithin : Cond.code mX5_isWithin.1 mX5_isWithin.2.1 mX5_isWithin.2.2.1 mX5_isWithin.2.2.2.1 ∈ GW := gw_at (i := 232) rfl rfl
set_option maxRecDepth 20000 in
theorem cwX3_meet : Cond.code mX3_meet.1 mX3_meet.2.1 mX3_meet.2.2.1 mX3_meet.2.2.2.1 ∈ GW := gw_at (i := 223) rfl rfl
set_option maxRecDepth 20000 in
theorem cwX3_rebuild : Cond.code mX3_rebuild.1 mX3_rebuild.2.1 mX3_rebuild.2.2.1 mX3_rebuild.2.2.2.1 ∈ GW := gw_at (i := 219) rfl rfl
set_option maxRecDepth 20000 in
theorem cwX4_init : Cond.code mX4_init.1 mX4_init.2.1 mX4_init.2.2.1 mX4_init.2.2.2.1 ∈ GW := gw_at (i := 153) rfl rfl
set_option maxRecDepth 20000 in
theorem cwX4_start : Cond.code mX4_start.1 mX4_start.2.1 mX4_start.2.2.1 mX4_start.2.2.2.1 ∈ GW := gw_at (i := 450) rfl rfl
set_option maxRecDepth 20000 in
theorem cwX4_isFound : Cond.code mX4_isFound.1 mX4_isFound.2.1 mX4_isFound.2.2.1 mX4_isFound.2.2.2.1 ∈ GW := gw_at (i := 513) rfl rfl
set_option maxRecDepth 20000 in
theorem cwX4_isReached : Cond.code mX4_isReached.1 mX4_isReached.2.1 mX4_isReached.2.2.1 mX4_isReached.2.2.2.1 ∈ GW := gw_at (i := 517) rfl rfl
set_option maxRecDepth 20000 in
theorem cwX4_isAtMost : Cond.code mX4_isAtMost.1 mX4_isAtMost.2.1 mX4_isAtMost.2.2.1 mX4_isAtMost.2.2.2.1 ∈ GW := gw_at (i := 529) rfl rfl
set_option maxRecDepth 20000 in
theorem cwX4_compare : Cond.code mX4_compare.1 mX4_compare.2.1 mX4_compare.2.2.1 mX4_compare.2.2.2.1 ∈ GW := gw_at (i := 495) rfl rfl
set_option maxRecDepth 20000 in
theorem cwX4_climbCorner : Cond.code mX4_climbCorner.1 mX4_climbCorner.2.1 mX4_climbCorner.2.2.1 mX4_climbCorner.2.2.2.1 ∈ GW := gw_at (i := 492) rfl rfl
set_option maxRecDepth 20000 in
theorem cwX4_climbCell : Cond.code mX4_climbCell.1 mX4_climbCell.2.1 mX4_climbCell.2.2.1 mX4_climbCell.2.2.2.1 ∈ GW := gw_at (i := 472) rfl rfl
set_option maxRecDepth 20000 in
theorem cwX4_include : Cond.code mX4_include.1 mX4_include.2.1 mX4_include.2.2.1 mX4_include.2.2.2.1 ∈ GW := gw_at (i := 468) rfl rfl
set_option maxRecDepth 20000 in
theorem cwX4_commonDivisor : Cond.code mX4_commonDivisor.1 mX4_commonDivisor.2.1 mX4_commonDivisor.2.2.1 mX4_commonDivisor.2.2.2.1 ∈ GW := gw_at (i := 502) rfl rfl
set_option maxRecDepth 20000 in
theorem cwX4_reducedOver : Cond.code mX4_reducedOver.1 mX4_reducedOver.2.1 mX4_reducedOver.2.2.1 mX4_reducedOver.2.2.2.1 ∈ GW := gw_at (i := 499) rfl rfl
set_option maxRecDepth 20000 in
theorem cwX4_reducedUnder : Cond.code mX4_reducedUnder.1 mX4_reducedUnder.2.1 mX4_reducedUnder.2.2.1 mX4_reducedUnder.2.2.2.1 ∈ GW := gw_at (i := 509) rfl rfl
set_option maxRecDepth 20000 in
theorem cwX5_init : Cond.code mX5_init.1 mX5_init.2.1 mX5_init.2.2.1 mX5_init.2.2.2.1 ∈ GW := gw_at (i := 28) rfl rfl
set_option maxRecDepth 20000 in
theorem cwX5_areFactors : Cond.code mX5_areFactors.1 mX5_areFactors.2.1 mX5_areFactors.2.2.1 mX5_areFactors.2.2.2.1 ∈ GW := gw_at (i := 360) rfl rfl
set_option maxRecDepth 20000 in
theorem cwX5_isLimit : Cond.code mX5_isLimit.1 mX5_isLimit.2.1 mX5_isLimit.2.2.1 mX5_isLimit.2.2.2.1 ∈ GW := gw_at (i := 364) rfl rfl
set_option maxRecDepth 20000 in
theorem cwX5_linear : Cond.code mX5_linear.1 mX5_linear.2.1 mX5_linear.2.2.1 mX5_linear.2.2.2.1 ∈ GW := gw_at (i := 357) rfl rfl
set_option maxRecDepth 20000 in
theorem cwX5_isNumber : Cond.code mX5_isNumber.1 mX5_isNumber.2.1 mX5_isNumber.2.2.1 mX5_isNumber.2.2.2.1 ∈ GW := gw_at (i := 342) rfl rfl
set_option maxRecDepth 20000 in
theorem cwX5_fact : Cond.code mX5_fact.1 mX5_fact.2.1 mX5_fact.2.2.1 mX5_fact.2.2.2.1 ∈ GW := gw_at (i := 338) rfl rfl
set_option maxRecDepth 20000 in
theorem cwX5_isDefined : Cond.code mX5_isDefined.1 mX5_isDefined.2.1 mX5_isDefined.2.2.1 mX5_isDefined.2.2.2.1 ∈ GW := gw_at (i := 379) rfl rfl
set_option maxRecDepth 20000 in
theorem cwX5_isDefinedOrAbsent : Cond.code mX5_isDefinedOrAbsent.1 mX5_isDefinedOrAbsent.2.1 mX5_isDefinedOrAbsent.2.2.1 mX5_isDefinedOrAbsent.2.2.2.1 ∈ GW := gw_at (i := 383) rfl rfl
set_option maxRecDepth 20000 in
theorem cwX5_clause : Cond.code mX5_clause.1 mX5_clause.2.1 mX5_clause.2.2.1 mX5_clause.2.2.2.1 ∈ GW := gw_at (i := 375) rfl rfl
set_option maxRecDepth 20000 in
theorem cwX5_push : Cond.code mX5_push.1 mX5_push.2.1 mX5_push.2.2.1 mX5_push.2.2.2.1 ∈ GW := gw_at (i := 414) rfl rfl
set_option maxRecDepth 20000 in
theorem cwX5_pop : Cond.code mX5_pop.1 mX5_pop.2.1 mX5_pop.2.2.1 mX5_pop.2.2.2.1 ∈ GW := gw_at (i := 431) rfl rfl
set_option maxRecDepth 20000 in
theorem cwX5_isWorld : Cond.code mX5_isWorld.1 mX5_isWorld.2.1 mX5_isWorld.2.2.1 mX5_isWorld.2.2.2.1 ∈ GW := gw_at (i := 305) rfl rfl
set_option maxRecDepth 20000 in
theorem cwX5_refresh : Cond.code mX5_refresh.1 mX5_refresh.2.1 mX5_refresh.2.2.1 mX5_refresh.2.2.2.1 ∈ GW := gw_at (i := 215) rfl rfl
set_option maxRecDepth 20000 in
theorem cwX5_worlds : Cond.code mX5_worlds.1 mX5_worlds.2.1 mX5_worlds.2.2.1 mX5_worlds.2.2.2.1 ∈ GW := gw_at (i := 211) rfl rfl
set_option maxRecDepth 20000 in
theorem cwX5_world : Cond.code mX5_world.1 mX5_world.2.1 mX5_world.2.2.1 mX5_world.2.2.2.1 ∈ GW := gw_at (i := 398) rfl rfl
set_option maxRecDepth 20000 in
theorem cwX5_holds : Cond.code mX5_holds.1 mX5_holds.2.1 mX5_holds.2.2.1 mX5_holds.2.2.2.1 ∈ GW := gw_at (i := 426) rfl rfl
set_option maxRecDepth 20000 in
theorem cwX5_climbWorld : Cond.code mX5_climbWorld.1 mX5_climbWorld.2.1 mX5_climbWorld.2.2.1 mX5_climbWorld.2.2.2.1 ∈ GW := gw_at (i := 454) rfl rfl
set_option maxRecDepth 20000 in
theorem cwX5_climb : Cond.code mX5_climb.1 mX5_climb.2.1 mX5_climb.2.2.1 mX5_climb.2.2.2.1 ∈ GW := gw_at (i := 446) rfl rfl
set_option maxRecDepth 20000 in
theorem cwX5_most : Cond.code mX5_most.1 mX5_most.2.1 mX5_most.2.2.1 mX5_most.2.2.2.1 ∈ GW := gw_at (i := 442) rfl rfl
set_option maxRecDepth 20000 in
theorem cwX5_top : Cond.code mX5_top.1 mX5_top.2.1 mX5_top.2.2.1 mX5_top.2.2.2.1 ∈ GW := gw_at (i := 521) rfl rfl
set_option maxRecDepth 20000 in
theorem cwX5_bounded : Cond.code mX5_bounded.1 mX5_bounded.2.1 mX5_bounded.2.2.1 mX5_bounded.2.2.2.1 ∈ GW := gw_at (i := 525) rfl rfl
set_option maxRecDepth 20000 in
theorem cwX6_cell : Cond.code mX6_cell.1 mX6_cell.2.1 mX6_cell.2.2.1 mX6_cell.2.2.2.1 ∈ GW := gw_at (i := 331) rfl rfl
set_option maxRecDepth 20000 in
theorem cwX6_small : Cond.code mX6_small.1 mX6_small.2.1 mX6_small.2.2.1 mX6_small.2.2.2.1 ∈ GW := gw_at (i := 353) rfl rfl
set_option maxRecDepth 20000 in
theorem cwX6_atoms : Cond.code mX6_atoms.1 mX6_atoms.2.1 mX6_atoms.2.2.1 mX6_atoms.2.2.2.1 ∈ GW := gw_at (i := 334) rfl rfl
set_option maxRecDepth 20000 in
theorem cwX6_clauses : Cond.code mX6_clauses.1 mX6_clauses.2.1 mX6_clauses.2.2.1 mX6_clauses.2.2.2.1 ∈ GW := gw_at (i := 371) rfl rfl
set_option maxRecDepth 20000 in
theorem cwX6_set : Cond.code mX6_set.1 mX6_set.2.1 mX6_set.2.2.1 mX6_set.2.2.2.1 ∈ GW := gw_at (i := 394) rfl rfl
set_option maxRecDepth 20000 in
theorem cwX6_bits : Cond.code mX6_bits.1 mX6_bits.2.1 mX6_bits.2.2.1 mX6_bits.2.2.2.1 ∈ GW := gw_at (i := 401) rfl rfl
set_option maxRecDepth 20000 in
theorem cwX6_with : Cond.code mX6_with.1 mX6_with.2.1 mX6_with.2.2.1 mX6_with.2.2.2.1 ∈ GW := gw_at (i := 407) rfl rfl
set_option maxRecDepth 20000 in
theorem cwX6_satisfied : Cond.code mX6_satisfied.1 mX6_satisfied.2.1 mX6_satisfied.2.2.1 mX6_satisfied.2.2.2.1 ∈ GW := gw_at (i := 404) rfl rfl
set_option maxRecDepth 20000 in
theorem cwX6_halves : Cond.code mX6_halves.1 mX6_halves.2.1 mX6_halves.2.2.1 mX6_halves.2.2.2.1 ∈ GW := gw_at (i := 410) rfl rfl
set_option maxRecDepth 20000 in
theorem cwX6_compare : Cond.code mX6_compare.1 mX6_compare.2.1 mX6_compare.2.2.1 mX6_compare.2.2.2.1 ∈ GW := gw_at (i := 532) rfl rfl
set_option maxRecDepth 20000 in
theorem cwX6_tops : Cond.code mX6_tops.1 mX6_tops.2.1 mX6_tops.2.2.1 mX6_tops.2.2.2.1 ∈ GW := gw_at (i := 438) rfl rfl
set_option maxRecDepth 20000 in
theorem cwX6_fixed : Cond.code mX6_fixed.1 mX6_fixed.2.1 mX6_fixed.2.2.1 mX6_fixed.2.2.2.1 ∈ GW := gw_at (i := 539) rfl rfl
