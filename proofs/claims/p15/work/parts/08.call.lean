def rok (n : Nat) (v : Value) : Bool := match v with
  | .ref o => decide (o < n ∨ 39 ≤ o)
  | _ => true
theorem rv_agr {n n2 : Nat} {ad ad2 : Nat → Nat} (h : agr n n2 ad ad2) {v : Value} (hv : rok n v = true) : rv ad2 v = rv ad v := by
  cases v <;> first | rfl | (simp only [rok, decide_eq_true_eq] at hv; simp only [rv, h.2 _ hv])
theorem rv_agrs {n n2 : Nat} {ad ad2 : Nat → Nat} (h : agr n n2 ad ad2) {st : List Value} (hv : st.all (rok n) = true) : st.map (rv ad2) = st.map (rv ad) :=
  List.map_congr_left fun v hm => rv_agr h (List.all_eq_true.mp hv v hm)
theorem lget_mem : ∀ (L : List Value) (i : Nat), lget L i = .null ∨ lget L i ∈ L := by
  intro L
  induction L with
  | nil => intro i; exact Or.inl rfl
  | cons a r ih =>
    intro i
    cases i with
    | zero => exact Or.inr List.mem_cons_self
    | succ i => exact (ih i).imp id (List.mem_cons_of_mem _)
theorem lr_agr {n n2 : Nat} {ad ad2 : Nat → Nat} (h : agr n n2 ad ad2) {ls : Array Slot} {nL : Nat} {L : List Value} (hl : lr ad ls nL L) (hv : L.all (rok n) = true) : lr ad2 ls nL L := by
  refine ⟨hl.1, hl.2.1, hl.2.2.1, fun i v hc => ?_⟩
  rw [rv_agr h]
  · exact hl.2.2.2 i v hc
  · rcases lget_mem L i with q | q
    · rw [hc.1] at q
      subst q
      rfl
    · rw [hc.1] at q
      exact List.all_eq_true.mp hv v q
theorem yw_good {Y : MT} (hcw : Cond.code Y.1 Y.2.1 Y.2.2.1 Y.2.2.2.1 ∈ GW) : GoodIn GW (Yw Y) := by
  intro w hw
  rcases List.mem_cons.mp hw with rfl | hw
  · exact gw_good _ hcw
  · exact gw_good _ hw
section CALLS
variable {l : Launch} {ro : RO} {Y Y2 : MT} {n n' n2 : Nat} {M : Mem} {pc : Nat} {L st : List Value} {Post Post1 : Option Value → Mem → Prop}
variable {p : Program} {e : Env} {R : Room} {s : State} {m : MethodId} {args : Array Value} {below : List Frame} {meth : Method} {c : Code} {A : Nat → Prop} {ad : Nat → Nat} {cA : Nat → ClassId} {D : va_G} {H : Heap} {locs : List Loc} {cells slots : Nat} {Q : State → Prop} {ls : Array Slot}
theorem fc_agr (F : FC ro Y p R s m args meth c A ad) {ad2 : Nat → Nat} (h : agr n n2 ad ad2) : FC ro Y p R s m args meth c A ad2 := by
  obtain ⟨hx, hb, hml, hown, hgw, hnw, hA, hr, hz, hroom, hini⟩ := F
  refine ⟨hx, hb, hml, hown, hgw, hnw, hA, fun o N f hf => ?_, fun t ht => ?_, hroom, hini⟩
  · obtain ⟨g1, g2, g3⟩ := hr o N f hf
    rw [h.2 o (Or.inr g2)]
    exact ⟨g1, g2, g3⟩
  · rw [h.2 t (Or.inr (by omega))]
    exact hz t ht
/-- what the words of a call say, by its row -/
theorem ck_spec {cn idx kind na p1 p2 p3 p4 p5 : Nat} (h : clOk (cn, idx, kind, Y2, na, p1, p2, p3, p4, p5) = true) :
    (lw_tbl[p1]? = some (if kind % 2 = 1 then .methodLinkNest (RN cn) idx Y2.1 "RationDesk" else .methodLink (RN cn) idx Y2.1)) ∧ (lw_tbl[p2]? = some (if kind / 2 = 1 then .static Y2.1 else .instanceMethod Y2.1)) ∧ (kind / 2 = 0 → lw_tbl[p3]? = some (.selects Y2.1.cls Y2.1 Y2.1)) ∧ (lw_tbl[p4]? = some (.initialized Y2.1.cls)) ∧
    Y2.1.cls = RN Y2.2.2.2.2.2.2 ∧ (kind / 2 ≠ 1 → Y2.2.2.2.2.2.2 < 6) ∧ (Y2.1.cls ≠ "java/lang/invoke/MethodHandle" ∧ Y2.1.cls ≠ "java/lang/invoke/VarHandle" ∧ (parseMethodDescriptor Y2.1.desc).map (fun d => d.parameters.length) = some na) ∧ (kind / 2 = 2 → Y2.1.name = "<init>" ∧ Y2.2.2.2.1 = none) := by
  simp only [clOk, Bool.and_eq_true, Bool.or_eq_true, decide_eq_true_eq, bne_iff_ne, beq_iff_eq, ne_eq] at h
  obtain ⟨⟨⟨⟨⟨⟨⟨h1, h2⟩, h3⟩, h4⟩, h5⟩, h6⟩, h7⟩, h8⟩ := h
  exact ⟨h1, h2, fun q => h3.resolve_left (fun z => z q), h4, h5, fun q => h6.resolve_left q, h7, fun q => h8.resolve_left (fun z => z q)⟩
/-- the four ways of a call, one row: the way of the words is the kind's -/
theorem pl_run {roc : RO} {cn idx kind na p1 p2 p3 p4 p5 : Nat} (hck : clOk (cn, idx, kind, Y2, na, p1, p2, p3, p4, p5) = true) (hcn : Y.2.2.2.2.2.2 = cn) (hcw : Cond.code Y2.1 Y2.2.1 Y2.2.2.1 Y2.2.2.2.1 ∈ GW)
    {as : List Value} {rest : List Value} {recv : List Value} (hd : decode Y.2.1 pc = .ok ((if kind / 2 = 0 then .invokevirtual idx else if kind / 2 = 1 then .invokestatic idx else .invokespecial idx), 3)) (hk : kind < 6) (hna : as.length = na)
    (hrecv1 : kind / 2 = 1 → recv = []) (hrecv2 : kind / 2 ≠ 1 → ∃ o, recv = [.ref o] ∧ o < n ∧ shg SHL o = some (.inl Y2.2.2.2.2.2.2)) (hcat : (rest.map fun v => v.category).sum ≤ 8)
    (hroom : Y2.2.2.2.2.1 + 1 ≤ Y.2.2.2.2.1 ∧ 8 + (Y2.2.2.1 + 11) + Y2.2.2.2.2.2.1 ≤ Y.2.2.2.2.2.1) (hS2 : SemR l roc Y2 (recv ++ as) n M n2 Post1) (hc : cells + (n2 - n) ≤ R.cells) (hs : slots + (ssz n2 - ssz n) ≤ R.slots)
    (F : FC ro Y p R s m args meth c A ad) (hro : ∀ o N f, roc o = some (N, f) → ro o = some (N, f)) (hR : RelH n M ad cA D A H s) (hS : va_S A s.heap H locs) (hl : lr ad ls Y.2.2.1 L) :
    va_Run p l e R s m args below meth c H locs cells slots (n2 - n) (ssz n2 - ssz n) (F0 m pc ls ((as.reverse ++ (recv ++ rest)).map (rv ad))) (rest.map (rv ad)) (QSem n ad D H.size n2 Post1 ((recv ++ as).map (rv ad)).toArray) (AF n ad H.size) := by
  subst hcn
  obtain ⟨w1, w2, w3, w4, hcl, hc7, hdn, hini2⟩ := ck_spec hck
  have hpre : ∀ U : State, U.heap = H → s.WarmedH U.vm → PreU roc n M ad cA D H.size U := fun U hU hW => preU_of F hro hR hS hU hW
  have haf := af_in F hR hS
  have F' := F
  obtain ⟨hx, hb, hml, hown, hgw, hnw, hA, hr, hz, hrm, hini⟩ := F'
  have hM := hS2 ad cA D H.size
  have hrooms : Y2.2.2.2.2.1 + 1 ≤ R.frames ∧ 8 + (Y2.2.2.1 + 11) + Y2.2.2.2.2.2.1 ≤ R.locals := ⟨Nat.le_trans hroom.1 hrm.1, Nat.le_trans hroom.2 hrm.2⟩
  have hfix : CallFix p m c Y.2.1 Y.2.2.1 s args GW (RN Y.2.2.2.2.2.2) := ⟨hx, hb, hml, hown, hgw⟩
  have hyw := yw_good hcw
  have ini := gw_at w4 rfl
  have hcat2 : ((rest.map (rv ad)).map fun v => v.category).sum ≤ 8 := by
    rw [List.map_map]
    have : ((fun v => v.category) ∘ rv ad) = fun (v : Value) => v.category := by
      funext v
      exact rv_cat ad v
    rw [this]
    exact hcat
  have hrec : kind / 2 ≠ 1 → ∀ o, recv = [.ref o] → o < n → shg SHL o = some (.inl Y2.2.2.2.2.2.2) → ∃ cell : Cell, H[ad o]? = some cell ∧ cell.vm.isStatics = false ∧ s.vm.findClass Y2.1.cls = some cell.cls := by
    intro hk1 o _ ho hsh
    rw [hcl]
    have hent : (wl n ad cA M)[o]? = some (ad o, .inr (Y2.2.2.2.2.2.2, (List.range (nf Y2.2.2.2.2.2.2)).map (fval ad M Y2.2.2.2.2.2.2 o))) := by
      rw [wl_at ho, went, hsh]
    exact va_recv hR.2.2.1 hR.1 (cl_at _ (hc7 hk1)) hent
  have hmap : (as.reverse ++ (recv ++ rest)).map (rv ad) = (as.map (rv ad)).reverse ++ (recv.map (rv ad) ++ rest.map (rv ad)) := by simp
  rw [hmap]
  have hmap2 : ((recv ++ as).map (rv ad)).toArray = (recv.map (rv ad) ++ as.map (rv ad)).toArray := by simp
  rcases (show kind = 0 ∨ kind = 1 ∨ kind = 2 ∨ kind = 3 ∨ kind = 4 ∨ kind = 5 by omega) with rfl | rfl | rfl | rfl | rfl | rfl
  · obtain ⟨o, rfl, ho, hsh⟩ := hrecv2 (by decide)
    have hGV : GoodIn GW (wsV (RN Y.2.2.2.2.2.2) idx Y2.1.cls Y2.1 (Yw Y2)) := by
      intro w hw
      rcases List.mem_append.mp hw with hw | hw
      · simp only [List.mem_cons, List.not_mem_nil, or_false] at hw
        rcases hw with rfl | rfl | rfl | rfl
        · exact gw_good _ (gw_at w1 rfl)
        · exact gw_good _ (gw_at w2 rfl)
        · exact gw_good _ (gw_at (w3 rfl) rfl)
        · exact gw_good _ ini
      · exact hyw w hw
    exact va_runV (As := as.map (rv ad)) hfix hM (cwV na hgw hGV rfl rfl rfl ⟨rfl, hdn⟩ hrooms) ⟨preU_blind, hrec (by decide) o rfl ho hsh, fun U hU hW => ⟨rfl, hpre U hU hW⟩⟩ rfl (by simp [hna]) hl.1 rfl (lv_room hcat2) hd ⟨hc, hs⟩
  · obtain ⟨o, rfl, ho, hsh⟩ := hrecv2 (by decide)
    exact va_runVN (As := as.map (rv ad)) hfix hM ⟨va_cnB na hgw hyw rfl rfl rfl (hnw _ (nw_m w1)) (hgw _ ini) hdn hrooms, hgw _ (gw_at w2 rfl), hgw _ (gw_at (w3 rfl) rfl)⟩ ⟨preU_blind, hrec (by decide) o rfl ho hsh, fun U hU hW => ⟨rfl, hpre U hU hW⟩⟩ rfl (by simp [hna]) hl.1 rfl (lv_room hcat2) hd ⟨hc, hs⟩
  · obtain rfl := hrecv1 (by decide)
    have hGS : GoodIn GW (va_wsS (RN Y.2.2.2.2.2.2) idx Y2.1 (Yw Y2)) := by
      intro w hw
      rcases List.mem_append.mp hw with hw | hw
      · simp only [List.mem_cons, List.not_mem_nil, or_false] at hw
        rcases hw with rfl | rfl | rfl
        · exact gw_good _ (gw_at w1 rfl)
        · exact gw_good _ (gw_at w2 rfl)
        · exact gw_good _ ini
      · exact hyw w hw
    exact va_runS (As := as.map (rv ad)) hfix hM (va_cwS na hgw hGS rfl rfl rfl hdn hrooms) ⟨preU_blind, fun U hU hW => ⟨rfl, hpre U hU hW⟩⟩ rfl (by simp [hna]) hl.1 rfl (lv_room hcat2) hd ⟨hc, hs⟩
  · obtain rfl := hrecv1 (by decide)
    exact va_runSN (As := as.map (rv ad)) hfix hM ⟨va_cnB na hgw hyw rfl rfl rfl (hnw _ (nw_m w1)) (hgw _ ini) hdn hrooms, hgw _ (gw_at w2 rfl), trivial⟩ ⟨preU_blind, fun U hU hW => ⟨rfl, hpre U hU hW⟩⟩ rfl (by simp [hna]) hl.1 rfl (lv_room hcat2) hd ⟨hc, hs⟩
  · obtain ⟨o, rfl, ho, hsh⟩ := hrecv2 (by decide)
    obtain ⟨hnm, hret⟩ := hini2 (by decide)
    exact va_runI (As := as.map (rv ad)) (maxL := Y2.2.2.1) (bytes := Y2.2.1) hfix hM (cwI na hgw hyw (by unfold Yw; rw [hret]) rfl rfl (hgw _ ini) (hgw _ (gw_at w1 rfl)) (hgw _ (gw_at w2 rfl)) hnm hdn hrooms) ⟨preU_blind, fun U hU hW => ⟨rfl, hpre U hU hW⟩⟩ rfl (by simp [hna]) hl.1 rfl (lv_room hcat2) hd ⟨hc, hs⟩
  · obtain ⟨o, rfl, ho, hsh⟩ := hrecv2 (by decide)
    obtain ⟨hnm, hret⟩ := hini2 (by decide)
    exact va_runIN (As := as.map (rv ad)) (maxL := Y2.2.2.1) (bytes := Y2.2.1) hfix hM ⟨va_cnB na hgw hyw (by unfold Yw; rw [hret]) rfl rfl (hnw _ (nw_m w1)) (hgw _ ini) hdn hrooms, hnm, hgw _ (gw_at w2 rfl)⟩ ⟨preU_blind, fun U hU hW => ⟨rfl, hpre U hU hW⟩⟩ rfl (by simp [hna]) hl.1 rfl (lv_room hcat2) hd ⟨hc, hs⟩
def cInstr (kind idx : Nat) : Instr := if kind / 2 = 0 then .invokevirtual idx else if kind / 2 = 1 then .invokestatic idx else .invokespecial idx
/-- a call: the callee's contract, then what follows for each of its answers -/
theorem go_call {roc : RO} {cn idx kind na p1 p2 p3 p4 p5 : Nat} {stk : List Value} (recv as : List Value) (hck : clOk (cn, idx, kind, Y2, na, p1, p2, p3, p4, p5) = true) (hcw : Cond.code Y2.1 Y2.2.1 Y2.2.2.1 Y2.2.2.2.1 ∈ GW)
    (hst : stk = as.reverse ++ (recv ++ st)) (hd : okd Y.2.1 pc (cInstr kind idx) 3 = true) (hside : (decide (Y.2.2.2.2.2.2 = cn) && decide (kind < 6) && decide (as.length = na) && decide (n ≤ n2) && decide (n2 ≤ n') && decide (n2 ≤ 39) && decide (Y2.2.2.2.2.1 + 1 ≤ Y.2.2.2.2.1 ∧ 8 + (Y2.2.2.1 + 11) + Y2.2.2.2.2.2.1 ≤ Y.2.2.2.2.2.1)) = true)
    (hrecv1 : kind / 2 = 1 → recv = []) (hrecv2 : kind / 2 ≠ 1 → ∃ o, recv = [.ref o] ∧ o < n ∧ shg SHL o = some (.inl Y2.2.2.2.2.2.2)) (hcat : (st.map fun v => v.category).sum ≤ 8)
    (hnew : n2 = n ∨ (L.all (rok n) && st.all (rok n)) = true) (hro : ∀ o N f, roc o = some (N, f) → ro o = some (N, f))
    (hS2 : SemR l roc Y2 (recv ++ as) n M n2 Post1) (k : ∀ (v : Option Value) (M2 : Mem), Post1 v M2 → Go l ro Y n2 M2 (pc + 3) L (vst v ++ st) n' Post) : Go l ro Y n M pc L stk n' Post := by
  subst hst
  simp only [Bool.and_eq_true, decide_eq_true_eq] at hside
  obtain ⟨⟨⟨⟨⟨⟨s1, s2⟩, s3⟩, s4⟩, s5⟩, s6⟩, s7⟩ := hside
  intro p e R s m args below meth c A ad cA D cells slots Q F hn hc hs K H locs ls hR hS hl
  have m1 := ssz_mono s4
  have m2 := ssz_mono s5
  refine pl_call (n2 := n2) (Post1 := Post1) (a := ((recv ++ as).map (rv ad)).toArray) (rest := st) F hR hS (pl_run hck s1 hcw (okd_eq hd) s2 s3 hrecv1 hrecv2 hcat s7 hS2 (by omega) (by omega) F hro hR hS hl) ?_
  intro v M2 ad2 cA2 H2 locs2 hp hag hvv hR2 hS2'
  have F2 := fc_agr F hag
  have hst2 : vst v ++ st.map (rv ad) = (vst v ++ st).map (rv ad2) := by
    rw [List.map_append, hvv ad2]
    rcases hnew with h | h
    · rw [hag.1 h]
    · rw [Bool.and_eq_true] at h
      rw [rv_agrs hag h.2]
  have hl2 : lr ad2 ls Y.2.2.1 L := by
    rcases hnew with h | h
    · rw [hag.1 h]
      exact hl
    · rw [Bool.and_eq_true] at h
      exact lr_agr hag hl h.1
  rw [hst2]
  refine k v M2 hp p e R s m args below meth c A ad2 cA2 D (cells + (n2 - n)) (slots + (ssz n2 - ssz n)) Q F2 s6 (by omega) (by omega) ?_ H2 locs2 ls hR2 hS2' hl2
  intro v' M' ad' cA' H' locs' ls' pc' cells' slots' q1 q2 q3 q4 q5 q6 q7 q8
  refine K v' M' ad' cA' H' locs' ls' pc' cells' slots' q1 q2 q3 ⟨fun h => ?_, fun i hi => ?_⟩ q5 q6 (by omega) (by omega)
  · rw [q4.1 (by omega), hag.1 (by omega)]
  · rw [q4.2 i (by omega), hag.2 i hi]
/-- the last call of a method: what it makes of its own is nobody's later; the caller's objects are forgotten -/
theorem go_last {roc : RO} {M0 : Mem} {cn idx kind na p1 p2 p3 p4 p5 : Nat} {stk : List Value} (as : List Value) (hck : clOk (cn, idx, kind, Y2, na, p1, p2, p3, p4, p5) = true) (hcw : Cond.code Y2.1 Y2.2.1 Y2.2.2.1 Y2.2.2.2.1 ∈ GW)
    (hst : stk = as.reverse) (hd : okd Y.2.1 pc (cInstr kind idx) 3 = true) (hd2 : okd Y.2.1 (pc + 3) .ireturn 1 = true) (hside : (decide (Y.2.2.2.2.2.2 = cn) && decide (kind < 6) && decide (kind / 2 = 1) && decide (as.length = na) && decide (n2 + n = n') && decide (39 < n') && decide (n2 ≤ 39) && decide (ssz n2 + ssz n = ssz n') && decide (Y2.2.2.2.2.1 + 1 ≤ Y.2.2.2.2.1 ∧ 8 + (Y2.2.2.1 + 11) + Y2.2.2.2.2.2.1 ≤ Y.2.2.2.2.2.1)) = true)
    (hint : ∀ f : Nat → Nat, as.map (rv f) = as) (hret : Y.2.2.2.1 = some .boolean) (hro : ∀ o N f, roc o = some (N, f) → ro o = some (N, f))
    (hS2 : SemR l roc Y2 as 0 M0 n2 (fun v _ => v = some (.int 1))) (hp : Post (some (.int 1)) M0) : Go l ro Y n M pc L stk n' Post := by
  subst hst
  simp only [Bool.and_eq_true, decide_eq_true_eq] at hside
  obtain ⟨⟨⟨⟨⟨⟨⟨⟨s1, s2⟩, s3⟩, s4⟩, s5⟩, s6⟩, s7⟩, s8⟩, s9⟩ := hside
  intro p e R s m args below meth c A ad cA D cells slots Q F hn hc hs K H locs ls hR hS hl
  have hR0 : RelH 0 M0 ad cA D A H s := ⟨fun k q h => by simp [wl] at h, ⟨fun i j p q h => by simp [wl] at h, fun k q h => by simp [wl] at h⟩, hR.2.2.1, fun i hi => absurd hi (Nat.not_lt_zero i)⟩
  have h0 : ssz 0 = 0 := rfl
  rw [show as.reverse = as.reverse ++ ([] ++ ([] : List Value)) by simp]
  refine pl_call (n := 0) (n2 := n2) (M := M0) (Post1 := fun v _ => v = some (.int 1)) (a := (([] ++ as).map (rv ad)).toArray) (rest := []) F hR0 hS (pl_run (n := 0) (n2 := n2) (M := M0) (as := as) (rest := []) (recv := []) (Post1 := fun v _ => v = some (.int 1)) hck s1 hcw (okd_eq hd) s2 s4 (fun _ => rfl) (fun h => absurd s3 h) (by decide) s9 hS2 (by omega) (by omega) F hro hR0 hS hl) ?_
  intro v M2 ad2 cA2 H2 locs2 hv hag hvv hR2 hS2'
  subst hv
  have := K (some (.int 1)) M0 ad cA H2 locs2 ls (pc + 3) (cells + n2) (slots + ssz n2) hp (Or.inr (Or.inl ⟨1, rfl, Or.inr ⟨hret, Or.inr rfl⟩⟩)) (okd_eq hd2) ⟨fun _ => rfl, fun _ _ => rfl⟩ (fun h => absurd h (Nat.not_le.mpr s6)) hS2' (by omega) (by omega)
  exact this
end CALLS
