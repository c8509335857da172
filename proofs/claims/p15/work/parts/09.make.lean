/-! ===== making objects and rows; Object's constructor; Math.abs; the switch ===== -/
def zrow {α : Type} (f : Nat → Nat → α) (n : Nat) (z : α) : Nat → Nat → α := fun o k => if o = n then z else f o k
def zer (n : Nat) (M : Mem) : Mem := (zrow M.1 n 0, zrow M.2.1 n 0, zrow M.2.2 n .null)
theorem zrow_o {α : Type} {f : Nat → Nat → α} {n : Nat} {z : α} {o : Nat} (h : o ≠ n) : zrow f n z o = f o := by
  funext k
  exact if_neg h
theorem zrow_n {α : Type} {f : Nat → Nat → α} {n : Nat} {z : α} : zrow f n z n = fun _ => z := by
  funext k
  exact if_pos rfl
def refsOk (n : Nat) (M : Mem) : Bool := (List.range n).all fun i => (List.range 23).all fun k => rok n (M.2.2 i k)
theorem nf_le : ∀ c, c < 6 → nf c ≤ 23 := by decide +kernel
theorem went_agr {n n2 : Nat} {ad ad2 : Nat → Nat} {cA cA2 : Nat → ClassId} {M : Mem} (h : agr n n2 ad ad2) (hc : ∀ i, i < n → cA2 i = cA i) (hn : n ≤ 39) (hr : refsOk n M = true) {i : Nat} (hi : i < n) : went ad2 cA2 (zer n M) i = went ad cA M i := by
  have hne : i ≠ n := by omega
  have h1 : (zer n M).1 i = M.1 i := zrow_o hne
  have h2 : (zer n M).2.1 i = M.2.1 i := zrow_o hne
  have h3 : (zer n M).2.2 i = M.2.2 i := zrow_o hne
  rw [went, went, h.2 i (Or.inl hi), hc i hi, h1]
  split
  · rename_i ci hsh
    have hf : (List.range (nf ci)).map (fval ad2 (zer n M) ci i) = (List.range (nf ci)).map (fval ad M ci i) := by
      refine List.map_congr_left fun k hk => ?_
      have hk := List.mem_range.mp hk
      have hk2 : k < 23 := Nat.lt_of_lt_of_le hk (nf_le ci (sh_cls i ci hsh))
      have hrk := List.all_eq_true.mp (List.all_eq_true.mp hr i (List.mem_range.mpr hi)) k (List.mem_range.mpr hk2)
      unfold fval rdf
      rw [h1, h2, h3]
      split
      · rfl
      · exact rv_agr h hrk
      · rfl
    rw [hf]
  · rfl
  · rfl
theorem wl_push {n : Nat} {ad ad2 : Nat → Nat} {cA cA2 : Nat → ClassId} {M : Mem} (h : agr n (n + 1) ad ad2) (hc : ∀ i, i < n → cA2 i = cA i) (hn : n ≤ 39) (hr : refsOk n M = true) : wl (n + 1) ad2 cA2 (zer n M) = wl n ad cA M ++ [went ad2 cA2 (zer n M) n] := by
  unfold wl
  rw [List.range_succ, List.map_append]
  congr 1
  exact List.map_congr_left fun i hi => went_agr h hc hn hr (List.mem_range.mp hi)
def dfv (ci k : Nat) : Value := match fty ci k with
  | 1 => .long 0
  | 2 => .null
  | _ => .int 0
section MAKE
variable {l : Launch} {ro : RO} {Y : MT} {n n' : Nat} {M : Mem} {pc : Nat} {L st : List Value} {Post : Option Value → Mem → Prop}
theorem agr_push {n q : Nat} (ad : Nat → Nat) (hn : n < 39) : agr n (n + 1) ad (fun i => if i = n then q else ad i) :=
  ⟨fun h => by omega, fun i hi => if_neg (by omega)⟩
theorem go_new {idx ci p1 p2 p3 : Nat} (hd : okd Y.2.1 pc (.new idx) 3 = true) (hnl : NLT.contains (Y.2.2.2.2.2.2, idx, ci, p1, p2, p3) = true) (hsh : shg SHL n = some (.inl ci)) (hn' : n + 1 ≤ n') (hn39 : n < 39) (hrefs : refsOk n M = true) (hL : (L.all (rok n) && st.all (rok n)) = true)
    (k : Go l ro Y (n + 1) (zer n M) (pc + 3) L (.ref n :: st) n' Post) : Go l ro Y n M pc L st n' Post := by
  intro p e R s m args below meth c A ad cA D cells slots Q F hn hc hs K H locs ls hR hS hl
  have hnl2 := List.all_eq_true.mp NLT_ok _ (List.contains_iff_mem.mp hnl)
  simp only [Bool.and_eq_true, decide_eq_true_eq] at hnl2
  obtain ⟨⟨⟨w1, w2⟩, w3⟩, w4⟩ := hnl2
  rw [Bool.and_eq_true] at hL
  have hmono := ssz_mono hn'
  have hstep : ssz (n + 1) = ssz n + nf ci := by
    show ssz n + ssz1 n = _
    rw [ssz1, hsh]
  obtain ⟨hx, hb, hml, hown, hgw, hnw, hA, hr, hz, hroom, hini⟩ := id F
  have hdef : ∀ j, j < nf ci → defaultValue (tyT ci j) = vp_V ((List.range (nf ci)).map (dfv ci)) j := by
    intro j hj
    have h : ∀ c, c < 6 → ∀ j, j < nf c → defaultValue (tyT c j) = dfv c j := by decide +kernel
    rw [h ci w4 j hj]
    simp [vp_V, hj]
  refine va_new (ci := ci) hx hb hgw (lay_ok ci w4) (tyT ci) (tyT_ok ci w4) hown (hgw _ (gw_at w1 rfl)) (hgw _ (gw_at w2 rfl)) (hgw _ (gw_at w3 rfl)) hR.2.2.1 hR.1 hR.2.1 hS hA (cl_at ci w4) hdef (by omega) (by omega) (okd_eq hd) (fun q H1 g1 g2 g3 => ?_)
  have hag : agr n (n + 1) ad (fun i => if i = n then q else ad i) := agr_push ad hn39
  have hpush := wl_push (cA := cA) (cA2 := cA) hag (fun _ _ => rfl) hn hrefs
  have hlast : went (fun i => if i = n then q else ad i) cA (zer n M) n = (q, .inr (ci, (List.range (nf ci)).map (dfv ci))) := by
    rw [went, hsh]
    simp only [if_true]
    have : fval (fun i => if i = n then q else ad i) (zer n M) ci n = dfv ci := by
      funext k
      unfold fval rdf zer dfv
      simp only [zrow_n]
      generalize fty ci k = t
      match t with
      | 0 => rfl
      | 1 => rfl
      | 2 => rfl
      | t + 3 => rfl
    rw [this]
  rw [hlast] at hpush
  rw [← hpush] at g1 g2
  have hst2 : (Value.ref q :: st.map (rv ad)) = (Value.ref n :: st).map (rv (fun i => if i = n then q else ad i)) := by
    rw [List.map_cons, rv_agrs hag hL.2]
    simp [rv]
  rw [hst2]
  refine k p e R s m args below meth c A (fun i => if i = n then q else ad i) cA D (cells + 1) (slots + nf ci) Q (fc_agr F hag) (by omega) (by omega) (by omega) ?_ H1 locs ls ⟨g1, g2, hR.2.2.1, ?_⟩ g3 (lr_agr hag hl hL.1)
  · intro v' M' ad' cA' H' locs' ls' pc' cells' slots' q1 q2 q3 q4 q5 q6 q7 q8
    refine K v' M' ad' cA' H' locs' ls' pc' cells' slots' q1 q2 q3 ⟨fun h => by omega, fun i hi => ?_⟩ q5 q6 (by omega) (by omega)
    rw [q4.2 i (by omega), hag.2 i hi]
  · intro i hi b N hb2
    by_cases hin : i = n
    · subst hin
      rw [hsh] at hb2
      cases hb2
    · exact hR.2.2.2 i (by omega) b N hb2
def aty (b : Bool) : ArrayType := if b = true then .boolean else .int
theorem go_newarray {b : Bool} {N : Nat} {len : Int32} (hd : okd Y.2.1 pc (.newarray (aty b)) 2 = true) (hsh : shg SHL n = some (.inr (b, N))) (hlen : len = nI N) (hn' : n + 1 ≤ n') (hn39 : n < 39) (hrefs : refsOk n M = true) (hL : (L.all (rok n) && st.all (rok n)) = true)
    (k : Go l ro Y (n + 1) (zer n M) (pc + 2) L (.ref n :: st) n' Post) : Go l ro Y n M pc L (.int len :: st) n' Post := by
  intro p e R s m args below meth c A ad cA D cells slots Q F hn hc hs K H locs ls hR hS hl
  rw [Bool.and_eq_true] at hL
  have hmono := ssz_mono hn'
  have hN := sh_small n b N hsh
  have hN2 : N ≤ 364 := by
    have h : ∀ i, i < 39 → ∀ b N, shg SHL i = some (.inr (b, N)) → N ≤ 364 := by
      have h : (List.range 39).all (fun i => match shg SHL i with
        | some (.inr (_, N)) => decide (N ≤ 364)
        | _ => true) = true := by decide +kernel
      intro i hi b N hb
      have := List.all_eq_true.mp h i (List.mem_range.mpr hi)
      rw [hb] at this
      simpa using this
    exact h n hn39 b N hsh
  have hstep : ssz (n + 1) = ssz n + N := by
    show ssz n + ssz1 n = _
    rw [ssz1, hsh]
  obtain ⟨hx, hb, hml, hown, hgw, hnw, hA, hr, hz, hroom, hini⟩ := id F
  have hty : newarray.typeOf (aty b) = bty b := by cases b <;> rfl
  have harr : (Cond.arrayClass (newarray.typeOf (aty b))).before args s = true := by
    cases b
    · exact hgw _ (gw_at arr_ok.1 rfl)
    · exact hgw _ (gw_at arr_ok.2 rfl)
  have hvp : ∀ cA : ClassId, vp_cell cA (N, .inl (fun _ => 0)) = arrV cA N (fun _ => defaultValue (bty b)) := by
    intro cA
    cases b <;> rfl
  have hcl : len.toNatClampNeg = N := by rw [hlen]; exact nI_clamp hN
  have hpos : ¬ len < 0 := by rw [hlen]; exact nI_pos hN
  have hby : N * componentBytes (bty b) ≤ 536870912 := by
    have h4 : componentBytes (bty b) ≤ 4 := by cases b <;> decide
    have h5 : N * componentBytes (bty b) ≤ 364 * 4 := Nat.mul_le_mul hN2 h4
    exact Nat.le_trans h5 (Nat.le_of_ble_eq_true rfl)
  refine va_newa (ty := bty b) (a0 := (N, .inl (fun _ => 0))) hx hb harr hty hR.2.2.1 hR.1 hR.2.1 hS hA hvp hpos hcl hby (by omega) (by omega) (okd_eq hd) (fun q cN H1 gK g1 g2 g3 => ?_)
  have hag : agr n (n + 1) ad (fun i => if i = n then q else ad i) := agr_push ad hn39
  have hpush := wl_push (cA := cA) (cA2 := fun i => if i = n then cN else cA i) hag (fun i hi => if_neg (by omega)) hn hrefs
  have hlast : went (fun i => if i = n then q else ad i) (fun i => if i = n then cN else cA i) (zer n M) n = (q, .inl (cN, N, .inl (fun _ => 0))) := by
    rw [went, hsh]
    simp only [if_true]
    have : (zer n M).1 n = fun _ => 0 := zrow_n
    rw [this]
  rw [hlast] at hpush
  rw [← hpush] at g1 g2
  have hst2 : (Value.ref q :: st.map (rv ad)) = (Value.ref n :: st).map (rv (fun i => if i = n then q else ad i)) := by
    rw [List.map_cons, rv_agrs hag hL.2]
    simp [rv]
  rw [hst2]
  refine k p e R s m args below meth c A (fun i => if i = n then q else ad i) (fun i => if i = n then cN else cA i) D (cells + 1) (slots + N) Q (fc_agr F hag) (by omega) (by omega) (by omega) ?_ H1 locs ls ⟨g1, g2, hR.2.2.1, ?_⟩ g3 (lr_agr hag hl hL.1)
  · intro v' M' ad' cA' H' locs' ls' pc' cells' slots' q1 q2 q3 q4 q5 q6 q7 q8
    refine K v' M' ad' cA' H' locs' ls' pc' cells' slots' q1 q2 q3 ⟨fun h => by omega, fun i hi => ?_⟩ q5 q6 (by omega) (by omega)
    rw [q4.2 i (by omega), hag.2 i hi]
  · intro i hi b2 N2 hb2
    by_cases hin : i = n
    · subst hin
      rw [hsh] at hb2
      cases hb2
      simp only [if_true]
      exact gK.2 0 (cN, bty b) rfl
    · simp only [if_neg hin]
      exact hR.2.2.2 i (by omega) b2 N2 hb2
theorem go_obj {idx p1 : Nat} {o : Nat} (hd : okd Y.2.1 pc (.invokespecial idx) 3 = true) (hol : OLT.contains (Y.2.2.2.2.2.2, idx, p1) = true) (hroom : 1 ≤ Y.2.2.2.2.1 ∧ (st.map fun v => v.category).sum + 12 ≤ Y.2.2.2.2.2.1)
    (k : Go l ro Y n M (pc + 3) L st n' Post) : Go l ro Y n M pc L (.ref o :: st) n' Post := by
  intro p e R s m args below meth c A ad cA D cells slots Q F hn hc hs K H locs ls hR hS hl
  have hol2 := List.all_eq_true.mp OLT_ok _ (List.contains_iff_mem.mp hol)
  simp only [decide_eq_true_eq] at hol2
  have kk := k p e R s m args below meth c A ad cA D cells slots Q F hn hc hs K H locs ls hR hS hl
  obtain ⟨hx, hb, hml, hown, hgw, hnw, hA, hr, hz, hrm, hini⟩ := F
  have hcat2 : (((st.map (rv ad)).map fun v => v.category).sum) = (st.map fun v => v.category).sum := by
    rw [List.map_map]
    have : ((fun v => v.category) ∘ rv ad) = fun (v : Value) => v.category := by
      funext v
      exact rv_cat ad v
    rw [this]
  refine W.objInit hx hb hown (hgw _ (gw_at hol2 rfl)) (hgw _ (gw_at obj_ok.1 rfl)) (hgw _ (gw_at obj_ok.2 rfl)) rfl (by rw [hml]; exact hl.1) rfl (okd_eq hd) (Nat.le_trans hroom.1 hrm.1) ?_ ?_
  · show 2 * 0 + _ + 12 ≤ _
    rw [hcat2]
    have := hrm.2
    omega
  · exact W.eq (g2 := F0 m (pc + 3) ls (st.map (rv ad))) rfl kk
theorem abs_ok : lw_tbl[503]? = some (.methodLink (RN 4) 72 Lib.MathLoose.abs_long.x) ∧ lw_tbl[504]? = some (.static Lib.MathLoose.abs_long.x) ∧ lw_tbl[23]? = some (.initialized "java/lang/Math") ∧ lw_tbl[505]? = some (.code Lib.MathLoose.abs_long.x Lib.MathLoose.abs_long.code 2 (some .long)) := by decide +kernel
theorem go_abs {x : Int64} (hcn : Y.2.2.2.2.2.2 = 4) (hd : okd Y.2.1 pc (.invokestatic 72) 3 = true) (hroom : 1 ≤ Y.2.2.2.2.1 ∧ (st.map fun v => v.category).sum + 13 ≤ Y.2.2.2.2.2.1) (hnn : n ≤ n')
    (k : Go l ro Y n M (pc + 3) L (.long (if 0 < x then x else -x) :: st) n' Post) : Go l ro Y n M pc L (.long x :: st) n' Post := by
  intro p e R s m args below meth c A ad cA D cells slots Q F hn hc hs K H locs ls hR hS hl
  have kk := k p e R s m args below meth c A ad cA D cells slots Q F hn hc hs K H locs ls hR hS hl
  obtain ⟨hx, hb, hml, hown, hgw, hnw, hA, hr, hz, hrm, hini⟩ := F
  have hcat2 : (((st.map (rv ad)).map fun v => v.category).sum) = (st.map fun v => v.category).sum := by
    rw [List.map_map]
    have : ((fun v => v.category) ∘ rv ad) = fun (v : Value) => v.category := by
      funext v
      exact rv_cat ad v
    rw [this]
  have hmono := ssz_mono hnn
  refine va_mabs_long hx hb (by rw [hml]; exact hl.1.symm) hown (by rw [hcn]; exact hgw _ (gw_at abs_ok.1 rfl)) (hgw _ (gw_at abs_ok.2.1 rfl)) (hgw _ (gw_at abs_ok.2.2.1 rfl)) (hgw _ (gw_at abs_ok.2.2.2 rfl)) (Nat.le_trans hroom.1 hrm.1) ?_ (by omega) (by omega) (okd_eq hd) kk
  rw [hcat2]
  have := hrm.2
  omega
theorem go_tabOut {dflt lo hi : Int} {offs : Array Int} {len : Nat} {x : Int32} (tgt : Nat) (hd : okd Y.2.1 pc (.tableswitch dflt lo hi offs) len = true) (h : x.toInt < lo ∨ hi < x.toInt) (ht : (pc : Int) + dflt = (tgt : Int)) (k : Go l ro Y n M tgt L st n' Post) : Go l ro Y n M pc L (.int x :: st) n' Post := by
  intro p e R s m args below meth c A ad cA D cells slots Q F hn hc hs K H locs ls hR hS hl
  exact lv_tableOut F.1 F.2.1 (okd_eq hd) h ht (k p e R s m args below meth c A ad cA D cells slots Q F hn hc hs K H locs ls hR hS hl)
theorem go_tabIn {dflt lo hi : Int} {offs : Array Int} {len : Nat} {x : Int32} {off : Int} (tgt : Nat) (hd : okd Y.2.1 pc (.tableswitch dflt lo hi offs) len = true) (h1 : ¬ x.toInt < lo) (h2 : ¬ hi < x.toInt) (ho : offs[(x.toInt - lo).toNat]? = some off) (ht : (pc : Int) + off = (tgt : Int)) (k : Go l ro Y n M tgt L st n' Post) : Go l ro Y n M pc L (.int x :: st) n' Post := by
  intro p e R s m args below meth c A ad cA D cells slots Q F hn hc hs K H locs ls hR hS hl
  exact lv_tableIn F.1 F.2.1 (okd_eq hd) h1 h2 ho ht (k p e R s m args below meth c A ad cA D cells slots Q F hn hc hs K H locs ls hR hS hl)
end MAKE
