/-! ===== a literal as one more clause, taken back ===== -/
theorem q_push (l : Launch) {B A : Nat → Nat → Int32} (G : Nat → Nat → Int64) {ncl : Nat} {lf : Nat → Nat} (h : Ext B A ncl lf 0 0) : Sem l mX5_push [.ref 0] 27 (A, G, PF) 27 (fun r M2 => r = some (.int 1) ∧ ∃ A2, M2 = (A2, G, PF) ∧ Ext B A2 ncl lf 0 1) := by
  refine (s_X5_push l A G 0 h.2.2.2.2.1 (by decide)).mono ?_
  rintro v M (⟨-, rfl, rfl⟩ | ⟨z, -⟩)
  · exact ⟨by rw [h.2.2.2.2.1]; rfl, _, rfl, h.push⟩
  · exact absurd z (by decide)
theorem q_clause (l : Launch) {B A : Nat → Nat → Int32} (G : Nat → Nat → Int64) {dm ncl j lv : Nat} {lf : Nat → Nat} (hK : KI B dm ncl) (h : Ext B A ncl lf j lv) (h8 : ncl + j < 8) (hm : lf j < 10) (ht : dm.testBit (lf j / 2) = true) {x : Int32} (hx : x = nI (lf j)) : Sem l mX5_clause [.ref 0, .int x, .int (-1), .int (-1)] 27 (A, G, PF) 27 (fun r M2 => r = some (.int (nI (ncl + j + 1))) ∧ ∃ A2, M2 = (A2, G, PF) ∧ Ext B A2 ncl lf (j + 1) lv) := by
  subst hx
  have hKA := h.ki hK (by omega)
  refine (s_X5_clause l A G dm hKA.2.2.1 hKA.2.2.2.1 (ncl + j) h.2.2.2.1 (by omega) (nI (lf j)) (-1) (-1)).mono ?_
  have hok : ClOk dm (nI (lf j)) (-1) (-1) := ⟨fun z => z.2 rfl, (Dfd_nI hm).mpr ht, Or.inl rfl, Or.inl rfl⟩
  rintro v M (⟨-, -, rfl, rfl⟩ | ⟨-, z, -⟩ | ⟨z, -⟩)
  · exact ⟨by rw [h.2.2.2.1, nI_1], _, rfl, h.add h8 hm⟩
  · omega
  · exact absurd hok z
theorem q_pop (l : Launch) {B A : Nat → Nat → Int32} (G : Nat → Nat → Int64) {ncl j : Nat} {lf : Nat → Nat} (h : Ext B A ncl lf j 1) (lf2 : Nat → Nat) : Sem l mX5_pop [.ref 0] 27 (A, G, PF) 27 (fun r M2 => r = some (.int 0) ∧ ∃ A2, M2 = (A2, G, PF) ∧ Ext B A2 ncl lf2 0 0) := by
  refine (s_X5_pop l A G 1 h.2.2.2.2.1 (by decide)).mono ?_
  rintro v M (⟨-, rfl, rfl⟩ | ⟨z, -⟩)
  · exact ⟨by rw [h.2.2.2.2.1]; rfl, _, rfl, h.pop lf2⟩
  · exact absurd z (by decide)
theorem hv_of {A : Nat → Nat → Int32} {dm n m : Nat} {V : Nat → Prop} (hV : ∀ s, s < 32 → (Wd A dm n s ↔ V s)) : hv A dm n m = if wI (fun s => V s ∧ HL s m) 32 = 0 then 0 else if wI (fun s => V s ∧ HL s m) 32 = wI V 32 then 2 else 1 := by
  have e1 : SW A dm n m 32 ↔ ¬ wI (fun s => V s ∧ HL s m) 32 = 0 := by
    rw [wI_z]
    constructor
    · rintro ⟨s, h1, h2, h3⟩ z
      exact z s h1 ⟨(hV s h1).mp h2, h3⟩
    · intro z
      refine Classical.byContradiction fun q => z fun s hs hh => q ⟨s, hs, (hV s hs).mpr hh.1, hh.2⟩
  have e2 : EW A dm n m 32 ↔ wI (fun s => V s ∧ HL s m) 32 = wI V 32 := by
    constructor
    · intro h
      exact wI_c fun s hs => ⟨fun z => z.1, fun z => ⟨z, h s hs ((hV s hs).mpr z)⟩⟩
    · intro h s hs hw
      exact ((wI_eq h hs).mpr ((hV s hs).mp hw)).2
  unfold hv
  by_cases q : wI (fun s => V s ∧ HL s m) 32 = 0
  · rw [if_pos q, if_neg fun z => e1.mp z q]
  · rw [if_neg q, if_pos (e1.mpr q)]
    by_cases q2 : wI (fun s => V s ∧ HL s m) 32 = wI V 32
    · rw [if_pos q2, if_pos (e2.mpr q2)]
    · rw [if_neg q2, if_neg fun z => q2 (e2.mp z)]
noncomputable def ptw (B : Nat → Nat → Int32) (dm ncl m : Nat) : Int32 := wI (fun s => Wd B dm ncl s ∧ HL s m) 32
theorem pt_and (B : Nat → Nat → Int32) (dm ncl m : Nat) : ptw B dm ncl m = wI (Wd B dm ncl) 32 &&& wI (fun i => HL i m) 32 := (wI_and _ _).symm
theorem pt_set {B A : Nat → Nat → Int32} {dm ncl m : Nat} (h : Ext B A ncl (fun _ => m) 1 1) (hm : m < 10) : wI (Wd A dm (ncl + 1)) 32 = ptw B dm ncl m := wI_c fun s hs => by
  rw [h.wd (fun _ _ => hm) s]
  exact ⟨fun z => ⟨z.1, z.2 0 (by decide)⟩, fun z => ⟨z.1, fun i _ => z.2⟩⟩
theorem pt_hv {B A : Nat → Nat → Int32} {dm ncl m : Nat} (h : Ext B A ncl (fun _ => m) 1 1) (hm : m < 10) : hv A dm (ncl + 1) m = if ptw B dm ncl m = 0 then 0 else 2 := by
  have e := hv_of (A := A) (dm := dm) (n := ncl + 1) (m := m) (V := fun s => Wd B dm ncl s ∧ HL s m) fun s hs => by
    rw [h.wd (fun _ _ => hm) s]
    exact ⟨fun z => ⟨z.1, z.2 0 (by decide)⟩, fun z => ⟨z.1, fun i _ => z.2⟩⟩
  have e2 : wI (fun s => (Wd B dm ncl s ∧ HL s m) ∧ HL s m) 32 = ptw B dm ncl m := wI_c fun s hs => ⟨fun z => z.1, fun z => ⟨z, z.2⟩⟩
  rw [e, e2]
  by_cases q : ptw B dm ncl m = 0
  · rw [if_pos q, if_pos q]
  · rw [if_neg q, if_neg q]
    exact if_pos rfl
theorem pt_hv0 {B A : Nat → Nat → Int32} {dm ncl m : Nat} {lf : Nat → Nat} (h : Ext B A ncl lf 0 0) : hv A dm ncl m = if ptw B dm ncl m = 0 then 0 else if ptw B dm ncl m = wI (Wd B dm ncl) 32 then 2 else 1 :=
  hv_of (A := A) (dm := dm) (n := ncl) (m := m) (V := Wd B dm ncl) fun s hs => by
    rw [show Wd A dm ncl s ↔ Wd A dm (ncl + 0) s from Iff.rfl, h.wd (fun i hi => absurd hi (Nat.not_lt_zero i)) s]
    exact ⟨fun z => z.1, fun z => ⟨z, fun i hi => absurd hi (Nat.not_lt_zero i)⟩⟩
theorem wd_0 {B A : Nat → Nat → Int32} {dm ncl : Nat} {lf : Nat → Nat} (h : Ext B A ncl lf 0 0) : wI (Wd A dm ncl) 32 = wI (Wd B dm ncl) 32 := wI_c fun s hs => by
  rw [show Wd A dm ncl s ↔ Wd A dm (ncl + 0) s from Iff.rfl, h.wd (fun i hi => absurd hi (Nat.not_lt_zero i)) s]
  exact ⟨fun z => z.1, fun z => ⟨z, fun i hi => absurd hi (Nat.not_lt_zero i)⟩⟩
theorem pt_or (B : Nat → Nat → Int32) (dm ncl k : Nat) : (0 ||| ptw B dm ncl (2 * k)) ||| ptw B dm ncl (2 * k + 1) = wI (Wd B dm ncl) 32 := by
  rw [Int32.zero_or]
  unfold ptw
  rw [wI_or]
  refine wI_c fun s hs => ⟨fun z => z.elim (fun z => z.1) (fun z => z.1), fun z => ?_⟩
  have h1 : HL s (2 * k) ↔ s.testBit k = true := by
    unfold HL
    rw [show 2 * k / 2 = k by omega, show 2 * k % 2 = 0 by omega]
    exact ⟨fun z => z.mpr rfl, fun z => ⟨fun _ => rfl, fun _ => z⟩⟩
  have h2 : HL s (2 * k + 1) ↔ ¬ s.testBit k = true := by
    unfold HL
    rw [show (2 * k + 1) / 2 = k by omega, show (2 * k + 1) % 2 = 1 by omega]
    exact ⟨fun z q => absurd (z.mp q) (by decide), fun z => ⟨fun q => absurd q z, fun q => absurd q (by decide)⟩⟩
  rcases Classical.em (s.testBit k = true) with q | q
  · exact Or.inl ⟨z, h1.mpr q⟩
  · exact Or.inr ⟨z, h2.mpr q⟩
set_option maxRecDepth 100000 in
set_option maxHeartbeats 4000000 in
theorem lb_X6_halves (l : Launch) (B A : Nat → Nat → Int32) (G : Nat → Nat → Int64) (mm P dm ncl cnt : Nat) (hM : Mm mm P dm) (hB : Std B dm ncl cnt) (h3 : ncl ≤ 3) (k m : Nat) (x : Int32) (hx : x = nI m) (hm : m < 10) (ht : dm.testBit (m / 2) = true) (f : Int32) (j6 j7 j8 : Value) (hE : Ext B A ncl (fun _ => 0) 0 0) (hout : ∀ A2, Ext B A2 ncl (fun _ => 0) 0 0 → ∀ j6 j7 j8 : Value, Go l ro0 mX6_halves 27 (A2, G, PF) 15 [.ref 0, .int (nI mm), .int (wI (Wd B dm ncl) 32), .int (nI k), .int (f ||| (ptw B dm ncl m)), .int (x + 1), j6, j7, j8] [] 27 (fun r M2 => r = some (.int 1) ∧ ∃ A2, M2 = (A2, G, PF) ∧ Ext B A2 ncl (fun _ => 0) 0 0)) : Go l ro0 mX6_halves 27 (A, G, PF) 25 [.ref 0, .int (nI mm), .int (wI (Wd B dm ncl) 32), .int (nI k), .int f, .int x, j6, j7, j8] [] 27 (fun r M2 => r = some (.int 1) ∧ ∃ A2, M2 = (A2, G, PF) ∧ Ext B A2 ncl (fun _ => 0) 0 0) := by
  refine go_blk (pc2 := 26) (L2 := [.ref 0, .int (nI mm), .int (wI (Wd B dm ncl) 32), .int (nI k), .int f, .int x, j6, j7, j8]) (st2 := [.ref 0]) (M2 := (A, G, PF)) (hs2 := []) (C := True) [(.aload_n 0, 0, 0)] [] (by decide +kernel) rfl trivial ?_
  refine go_call (Y2 := mX5_push) (n2 := 27) (st := []) [.ref 0] [] ck_6_38 cwX5_push rfl (by decide +kernel) rfl (fun h => absurd h (by decide)) (fun _ => ⟨0, rfl, by decide, rfl⟩) (Nat.le_of_ble_eq_true rfl) (Or.inl rfl) (fun _ _ _ h => h) (q_push l G (hE.lf (fun _ => m))) (fun v M2 hp1 => ?_)
  obtain ⟨rfl, A1, rfl, hEA1⟩ := hp1
  show Go l ro0 mX6_halves 27 (A1, G, PF) 29 [.ref 0, .int (nI mm), .int (wI (Wd B dm ncl) 32), .int (nI k), .int f, .int x, j6, j7, j8] [.int 1] 27 _
  refine go_blk (pc2 := 36) (L2 := [.ref 0, .int (nI mm), .int (wI (Wd B dm ncl) 32), .int (nI k), .int f, .int x, .int 1, j7, j8]) (st2 := [.int (-1), .int (-1), .int x, .ref 0]) (M2 := (A1, G, PF)) (hs2 := []) (C := True) [(.istore 6, 0, 0), (.aload_n 0, 0, 0), (.iload 5, 0, 0), (.iconst (-1), 0, 0), (.iconst (-1), 0, 0)] [] (by decide +kernel) rfl trivial ?_
  refine go_call (Y2 := mX5_clause) (n2 := 27) (st := []) [.ref 0] [.int x, .int (-1), .int (-1)] ck_6_27 cwX5_clause rfl (by decide +kernel) rfl (fun h => absurd h (by decide)) (fun _ => ⟨0, rfl, by decide, rfl⟩) (Nat.le_of_ble_eq_true rfl) (Or.inl rfl) (fun _ _ _ h => h) (q_clause l G (lf := fun _ => m) hB.1 hEA1 (by omega) hm ht hx) (fun v M2 hp2 => ?_)
  obtain ⟨rfl, A2, rfl, hEA2⟩ := hp2
  show Go l ro0 mX6_halves 27 (A2, G, PF) 39 [.ref 0, .int (nI mm), .int (wI (Wd B dm ncl) 32), .int (nI k), .int f, .int x, .int 1, j7, j8] [.int (nI (ncl + 0 + 1))] 27 _
  refine go_blk (pc2 := 40) (L2 := [.ref 0, .int (nI mm), .int (wI (Wd B dm ncl) 32), .int (nI k), .int f, .int x, .int 1, j7, j8]) (st2 := [.int 1, .int (nI (ncl + 0 + 1))]) (M2 := (A2, G, PF)) (hs2 := []) (C := True) [(.iconst 1, 0, 0)] [] (by decide +kernel) rfl trivial ?_
  refine go_cmp (cnd := .ge) (off := 5) 45 (by decide +kernel) (by decide) (fun _ => ?_) (fun (h : ¬ 1 ≤ (nI (ncl + 0 + 1))) => absurd h (fun zz => zz ((nx_le (a := 1) (b := (ncl + 0 + 1)) rfl rfl (by omega) (by omega)).mpr (by omega))))
  refine go_blk (pc2 := 47) (L2 := [.ref 0, .int (nI mm), .int (wI (Wd B dm ncl) 32), .int (nI k), .int f, .int x, .int 1, j7, j8]) (st2 := [.int (nI mm), .ref 0]) (M2 := (A2, G, PF)) (hs2 := []) (C := True) [(.aload_n 0, 0, 0), (.iload_n 1, 0, 0)] [] (by decide +kernel) rfl trivial ?_
  refine go_call (Y2 := mX6_set) (n2 := 27) (st := []) [] [.ref 0, .int (nI mm)] ck_6_42 cwX6_set rfl (by decide +kernel) rfl (fun _ => rfl) (fun h => absurd rfl h) (Nat.le_of_ble_eq_true rfl) (Or.inl rfl) (fun _ _ _ h => h) (s_X6_set l A2 G mm P dm (ncl + 1) cnt hM (hEA2.std hB (by omega))) (fun v M2 hp3 => ?_)
  obtain ⟨rfl, rfl⟩ := hp3
  rw [pt_set hEA2 hm]
  show Go l ro0 mX6_halves 27 (A2, G, PF) 50 [.ref 0, .int (nI mm), .int (wI (Wd B dm ncl) 32), .int (nI k), .int f, .int x, .int 1, j7, j8] [.int (ptw B dm ncl m)] 27 _
  refine go_blk (pc2 := 57) (L2 := [.ref 0, .int (nI mm), .int (wI (Wd B dm ncl) 32), .int (nI k), .int f, .int x, .int 1, .int (ptw B dm ncl m), j8]) (st2 := [.int x, .int (wI (Wd B dm ncl) 32), .int (ptw B dm ncl m)]) (M2 := (A2, G, PF)) (hs2 := []) (C := True) [(.istore 7, 0, 0), (.iload 7, 0, 0), (.iload_n 2, 0, 0), (.iload 5, 0, 0)] [] (by decide +kernel) rfl trivial ?_
  refine go_call (Y2 := mX6_with) (n2 := 27) (st := [.int (wI (Wd B dm ncl) 32), .int (ptw B dm ncl m)]) [] [.int x] ck_6_35 cwX6_with rfl (by decide +kernel) rfl (fun _ => rfl) (fun h => absurd rfl h) (Nat.le_of_ble_eq_true rfl) (Or.inl rfl) (fun _ _ _ h => h) (by rw [hx]; exact s_X6_with l A2 G m hm) (fun v M2 hp4 => ?_)
  obtain ⟨rfl, rfl⟩ := hp4
  show Go l ro0 mX6_halves 27 (A2, G, PF) 60 [.ref 0, .int (nI mm), .int (wI (Wd B dm ncl) 32), .int (nI k), .int f, .int x, .int 1, .int (ptw B dm ncl m), j8] [.int (wI (fun i => HL i m) 32), .int (wI (Wd B dm ncl) 32), .int (ptw B dm ncl m)] 27 _
  refine go_blk (pc2 := 61) (L2 := [.ref 0, .int (nI mm), .int (wI (Wd B dm ncl) 32), .int (nI k), .int f, .int x, .int 1, .int (ptw B dm ncl m), j8]) (st2 := [.int ((wI (Wd B dm ncl) 32) &&& (wI (fun i => HL i m) 32)), .int (ptw B dm ncl m)]) (M2 := (A2, G, PF)) (hs2 := []) (C := True) [(.iand, 0, 0)] [] (by decide +kernel) rfl trivial ?_
  refine go_cmp (cnd := .ne) (off := 33) 94 (by decide +kernel) (by decide) (fun (h : ¬ (ptw B dm ncl m) = ((wI (Wd B dm ncl) 32) &&& (wI (fun i => HL i m) 32))) => absurd h (fun zz => zz (pt_and B dm ncl m))) (fun _ => ?_)
  refine go_blk (pc2 := 67) (L2 := [.ref 0, .int (nI mm), .int (wI (Wd B dm ncl) 32), .int (nI k), .int f, .int x, .int 1, .int (ptw B dm ncl m), j8]) (st2 := [.int x, .ref 0]) (M2 := (A2, G, PF)) (hs2 := []) (C := True) [(.aload_n 0, 0, 0), (.iload 5, 0, 0)] [] (by decide +kernel) rfl trivial ?_
  refine go_call (Y2 := mX5_holds) (n2 := 27) (st := []) [.ref 0] [.int x] ck_6_46 cwX5_holds rfl (by decide +kernel) rfl (fun h => absurd h (by decide)) (fun _ => ⟨0, rfl, by decide, rfl⟩) (Nat.le_of_ble_eq_true rfl) (Or.inl rfl) (fun _ _ _ h => h) (by rw [hx]; exact q_holds l G (hEA2.std hB (by omega)) hm ht) (fun v M2 hp5 => ?_)
  obtain ⟨rfl, rfl⟩ := hp5
  show Go l ro0 mX6_halves 27 (A2, G, PF) 70 [.ref 0, .int (nI mm), .int (wI (Wd B dm ncl) 32), .int (nI k), .int f, .int x, .int 1, .int (ptw B dm ncl m), j8] [.int (hv A2 dm (ncl + 1) m)] 27 _
  refine go_blk (pc2 := 72) (L2 := [.ref 0, .int (nI mm), .int (wI (Wd B dm ncl) 32), .int (nI k), .int f, .int x, .int 1, .int (ptw B dm ncl m), j8]) (st2 := [.int (ptw B dm ncl m), .int (hv A2 dm (ncl + 1) m)]) (M2 := (A2, G, PF)) (hs2 := []) (C := True) [(.iload 7, 0, 0)] [] (by decide +kernel) rfl trivial ?_
  refine go_ifz (cnd := .ne) (off := 7) 79 (by decide +kernel) (by decide) (fun (c6 : ¬ (ptw B dm ncl m) = 0) => ?_) (fun (c6 : (ptw B dm ncl m) = 0) => ?_)
  · skip
    refine go_blk (pc2 := 80) (L2 := [.ref 0, .int (nI mm), .int (wI (Wd B dm ncl) 32), .int (nI k), .int f, .int x, .int 1, .int (ptw B dm ncl m), j8]) (st2 := [.int 2, .int (hv A2 dm (ncl + 1) m)]) (M2 := (A2, G, PF)) (hs2 := []) (C := True) [(.iconst 2, 0, 0)] [] (by decide +kernel) rfl trivial ?_
    refine go_cmp (cnd := .ne) (off := 14) 94 (by decide +kernel) (by decide) (fun (h : ¬ (hv A2 dm (ncl + 1) m) = 2) => absurd h (fun zz => zz (by rw [pt_hv hEA2 hm]; first | rw [if_pos (by assumption)] | rw [if_neg (by assumption)]))) (fun _ => ?_)
    refine go_blk (pc2 := 84) (L2 := [.ref 0, .int (nI mm), .int (wI (Wd B dm ncl) 32), .int (nI k), .int f, .int x, .int 1, .int (ptw B dm ncl m), j8]) (st2 := [.ref 0]) (M2 := (A2, G, PF)) (hs2 := []) (C := True) [(.aload_n 0, 0, 0)] [] (by decide +kernel) rfl trivial ?_
    refine go_call (Y2 := mX5_pop) (n2 := 27) (st := []) [.ref 0] [] ck_6_49 cwX5_pop rfl (by decide +kernel) rfl (fun h => absurd h (by decide)) (fun _ => ⟨0, rfl, by decide, rfl⟩) (Nat.le_of_ble_eq_true rfl) (Or.inl rfl) (fun _ _ _ h => h) (q_pop l G hEA2 (fun _ => 0)) (fun v M2 hp7 => ?_)
    obtain ⟨rfl, A3, rfl, hEA3⟩ := hp7
    show Go l ro0 mX6_halves 27 (A3, G, PF) 87 [.ref 0, .int (nI mm), .int (wI (Wd B dm ncl) 32), .int (nI k), .int f, .int x, .int 1, .int (ptw B dm ncl m), j8] [.int 0] 27 _
    refine go_blk (pc2 := 91) (L2 := [.ref 0, .int (nI mm), .int (wI (Wd B dm ncl) 32), .int (nI k), .int f, .int x, .int 1, .int (ptw B dm ncl m), j8]) (st2 := [.int (1 - 1), .int 0]) (M2 := (A3, G, PF)) (hs2 := []) (C := True) [(.iload 6, 0, 0), (.iconst 1, 0, 0), (.isub, 0, 0)] [] (by decide +kernel) rfl trivial ?_
    refine go_cmp (cnd := .eq) (off := 5) 96 (by decide +kernel) (by decide) (fun _ => ?_) (fun (h : ¬ (0 : Int32) = (1 - 1)) => absurd h (fun zz => zz (by decide)))
    refine go_blk (pc2 := 98) (L2 := [.ref 0, .int (nI mm), .int (wI (Wd B dm ncl) 32), .int (nI k), .int f, .int x, .int 1, .int (ptw B dm ncl m), j8]) (st2 := [.int (ptw B dm ncl m)]) (M2 := (A3, G, PF)) (hs2 := []) (C := True) [(.iload 7, 0, 0)] [] (by decide +kernel) rfl trivial ?_
    refine go_ifz (cnd := .ne) (off := 7) 105 (by decide +kernel) (by decide) (fun _ => ?_) (fun (h : (ptw B dm ncl m) = 0) => absurd h (by assumption))
    refine go_blk (pc2 := 108) (L2 := [.ref 0, .int (nI mm), .int (wI (Wd B dm ncl) 32), .int (nI k), .int f, .int x, .int 1, .int (ptw B dm ncl m), j8]) (st2 := [.int (wI (Wd B dm ncl) 32), .int (ptw B dm ncl m)]) (M2 := (A3, G, PF)) (hs2 := []) (C := True) [(.iload 7, 0, 0), (.iload_n 2, 0, 0)] [] (by decide +kernel) rfl trivial ?_
    refine go_cmp (cnd := .ne) (off := 7) 115 (by decide +kernel) (by decide) (fun (c8 : ¬ (ptw B dm ncl m) = (wI (Wd B dm ncl) 32)) => ?_) (fun (c8 : (ptw B dm ncl m) = (wI (Wd B dm ncl) 32)) => ?_)
    · skip
      refine go_blk (pc2 := 121) (L2 := [.ref 0, .int (nI mm), .int (wI (Wd B dm ncl) 32), .int (nI k), .int f, .int x, .int 1, .int (ptw B dm ncl m), .int 1]) (st2 := [.int x, .ref 0]) (M2 := (A3, G, PF)) (hs2 := []) (C := True) [(.iconst 1, 0, 0), (.istore 8, 0, 0), (.aload_n 0, 0, 0), (.iload 5, 0, 0)] [] (by decide +kernel) rfl trivial ?_
      refine go_call (Y2 := mX5_holds) (n2 := 27) (st := []) [.ref 0] [.int x] ck_6_46 cwX5_holds rfl (by decide +kernel) rfl (fun h => absurd h (by decide)) (fun _ => ⟨0, rfl, by decide, rfl⟩) (Nat.le_of_ble_eq_true rfl) (Or.inl rfl) (fun _ _ _ h => h) (by rw [hx]; exact q_holds l G (show Std A3 dm ncl cnt from hEA3.std hB (by omega)) hm ht) (fun v M2 hp9 => ?_)
      obtain ⟨rfl, rfl⟩ := hp9
      show Go l ro0 mX6_halves 27 (A3, G, PF) 124 [.ref 0, .int (nI mm), .int (wI (Wd B dm ncl) 32), .int (nI k), .int f, .int x, .int 1, .int (ptw B dm ncl m), .int 1] [.int (hv A3 dm ncl m)] 27 _
      refine go_blk (pc2 := 126) (L2 := [.ref 0, .int (nI mm), .int (wI (Wd B dm ncl) 32), .int (nI k), .int f, .int x, .int 1, .int (ptw B dm ncl m), .int 1]) (st2 := [.int 1, .int (hv A3 dm ncl m)]) (M2 := (A3, G, PF)) (hs2 := []) (C := True) [(.iload 8, 0, 0)] [] (by decide +kernel) rfl trivial ?_
      refine go_cmp (cnd := .ne) (off := 12) 138 (by decide +kernel) (by decide) (fun (h : ¬ (hv A3 dm ncl m) = 1) => absurd h (fun zz => zz (by rw [pt_hv0 hEA3]; first | rw [if_pos (by assumption)] | rw [if_neg (by assumption), if_pos (by assumption)] | rw [if_neg (by assumption), if_neg (by assumption)]))) (fun _ => ?_)
      refine go_blk (pc2 := 131) (L2 := [.ref 0, .int (nI mm), .int (wI (Wd B dm ncl) 32), .int (nI k), .int f, .int x, .int 1, .int (ptw B dm ncl m), .int 1]) (st2 := [.int (nI mm), .ref 0]) (M2 := (A3, G, PF)) (hs2 := []) (C := True) [(.aload_n 0, 0, 0), (.iload_n 1, 0, 0)] [] (by decide +kernel) rfl trivial ?_
      refine go_call (Y2 := mX6_set) (n2 := 27) (st := []) [] [.ref 0, .int (nI mm)] ck_6_42 cwX6_set rfl (by decide +kernel) rfl (fun _ => rfl) (fun h => absurd rfl h) (Nat.le_of_ble_eq_true rfl) (Or.inl rfl) (fun _ _ _ h => h) (s_X6_set l A3 G mm P dm ncl cnt hM (hEA3.std hB (by omega))) (fun v M2 hp10 => ?_)
      obtain ⟨rfl, rfl⟩ := hp10
      rw [wd_0 hEA3]
      show Go l ro0 mX6_halves 27 (A3, G, PF) 134 [.ref 0, .int (nI mm), .int (wI (Wd B dm ncl) 32), .int (nI k), .int f, .int x, .int 1, .int (ptw B dm ncl m), .int 1] [.int (wI (Wd B dm ncl) 32)] 27 _
      refine go_blk (pc2 := 135) (L2 := [.ref 0, .int (nI mm), .int (wI (Wd B dm ncl) 32), .int (nI k), .int f, .int x, .int 1, .int (ptw B dm ncl m), .int 1]) (st2 := [.int (wI (Wd B dm ncl) 32), .int (wI (Wd B dm ncl) 32)]) (M2 := (A3, G, PF)) (hs2 := []) (C := True) [(.iload_n 2, 0, 0)] [] (by decide +kernel) rfl trivial ?_
      refine go_cmp (cnd := .eq) (off := 5) 140 (by decide +kernel) (by decide) (fun _ => ?_) (fun (h : ¬ (wI (Wd B dm ncl) 32) = (wI (Wd B dm ncl) 32)) => absurd h (fun zz => zz rfl))
      refine go_blk (pc2 := 150) (L2 := [.ref 0, .int (nI mm), .int (wI (Wd B dm ncl) 32), .int (nI k), .int (f ||| (ptw B dm ncl m)), .int (x + 1), .int 1, .int (ptw B dm ncl m), .int 1]) (st2 := []) (M2 := (A3, G, PF)) (hs2 := []) (C := True) [(.iload 4, 0, 0), (.iload 7, 0, 0), (.ior, 0, 0), (.istore 4, 0, 0), (.iinc 5 1, 0, 0)] [] (by decide +kernel) rfl trivial ?_
      refine go_goto (off := -135) 15 (by decide +kernel) (by decide) ?_
      exact hout A3 hEA3 _ _ _
    · skip
      refine go_blk (pc2 := 112) (L2 := [.ref 0, .int (nI mm), .int (wI (Wd B dm ncl) 32), .int (nI k), .int f, .int x, .int 1, .int (ptw B dm ncl m), j8]) (st2 := [.int 2]) (M2 := (A3, G, PF)) (hs2 := []) (C := True) [(.iconst 2, 0, 0)] [] (by decide +kernel) rfl trivial ?_
      refine go_goto (off := 4) 116 (by decide +kernel) (by decide) ?_
      refine go_blk (pc2 := 121) (L2 := [.ref 0, .int (nI mm), .int (wI (Wd B dm ncl) 32), .int (nI k), .int f, .int x, .int 1, .int (ptw B dm ncl m), .int 2]) (st2 := [.int x, .ref 0]) (M2 := (A3, G, PF)) (hs2 := []) (C := True) [(.istore 8, 0, 0), (.aload_n 0, 0, 0), (.iload 5, 0, 0)] [] (by decide +kernel) rfl trivial ?_
      refine go_call (Y2 := mX5_holds) (n2 := 27) (st := []) [.ref 0] [.int x] ck_6_46 cwX5_holds rfl (by decide +kernel) rfl (fun h => absurd h (by decide)) (fun _ => ⟨0, rfl, by decide, rfl⟩) (Nat.le_of_ble_eq_true rfl) (Or.inl rfl) (fun _ _ _ h => h) (by rw [hx]; exact q_holds l G (show Std A3 dm ncl cnt from hEA3.std hB (by omega)) hm ht) (fun v M2 hp11 => ?_)
      obtain ⟨rfl, rfl⟩ := hp11
      show Go l ro0 mX6_halves 27 (A3, G, PF) 124 [.ref 0, .int (nI mm), .int (wI (Wd B dm ncl) 32), .int (nI k), .int f, .int x, .int 1, .int (ptw B dm ncl m), .int 2] [.int (hv A3 dm ncl m)] 27 _
      refine go_blk (pc2 := 126) (L2 := [.ref 0, .int (nI mm), .int (wI (Wd B dm ncl) 32), .int (nI k), .int f, .int x, .int 1, .int (ptw B dm ncl m), .int 2]) (st2 := [.int 2, .int (hv A3 dm ncl m)]) (M2 := (A3, G, PF)) (hs2 := []) (C := True) [(.iload 8, 0, 0)] [] (by decide +kernel) rfl trivial ?_
      refine go_cmp (cnd := .ne) (off := 12) 138 (by decide +kernel) (by decide) (fun (h : ¬ (hv A3 dm ncl m) = 2) => absurd h (fun zz => zz (by rw [pt_hv0 hEA3]; first | rw [if_pos (by assumption)] | rw [if_neg (by assumption), if_pos (by assumption)] | rw [if_neg (by assumption), if_neg (by assumption)]))) (fun _ => ?_)
      refine go_blk (pc2 := 131) (L2 := [.ref 0, .int (nI mm), .int (wI (Wd B dm ncl) 32), .int (nI k), .int f, .int x, .int 1, .int (ptw B dm ncl m), .int 2]) (st2 := [.int (nI mm), .ref 0]) (M2 := (A3, G, PF)) (hs2 := []) (C := True) [(.aload_n 0, 0, 0), (.iload_n 1, 0, 0)] [] (by decide +kernel) rfl trivial ?_
      refine go_call (Y2 := mX6_set) (n2 := 27) (st := []) [] [.ref 0, .int (nI mm)] ck_6_42 cwX6_set rfl (by decide +kernel) rfl (fun _ => rfl) (fun h => absurd rfl h) (Nat.le_of_ble_eq_true rfl) (Or.inl rfl) (fun _ _ _ h => h) (s_X6_set l A3 G mm P dm ncl cnt hM (hEA3.std hB (by omega))) (fun v M2 hp12 => ?_)
      obtain ⟨rfl, rfl⟩ := hp12
      rw [wd_0 hEA3]
      show Go l ro0 mX6_halves 27 (A3, G, PF) 134 [.ref 0, .int (nI mm), .int (wI (Wd B dm ncl) 32), .int (nI k), .int f, .int x, .int 1, .int (ptw B dm ncl m), .int 2] [.int (wI (Wd B dm ncl) 32)] 27 _
      refine go_blk (pc2 := 135) (L2 := [.ref 0, .int (nI mm), .int (wI (Wd B dm ncl) 32), .int (nI k), .int f, .int x, .int 1, .int (ptw B dm ncl m), .int 2]) (st2 := [.int (wI (Wd B dm ncl) 32), .int (wI (Wd B dm ncl) 32)]) (M2 := (A3, G, PF)) (hs2 := []) (C := True) [(.iload_n 2, 0, 0)] [] (by decide +kernel) rfl trivial ?_
      refine go_cmp (cnd := .eq) (off := 5) 140 (by decide +kernel) (by decide) (fun _ => ?_) (fun (h : ¬ (wI (Wd B dm ncl) 32) = (wI (Wd B dm ncl) 32)) => absurd h (fun zz => zz rfl))
      refine go_blk (pc2 := 150) (L2 := [.ref 0, .int (nI mm), .int (wI (Wd B dm ncl) 32), .int (nI k), .int (f ||| (ptw B dm ncl m)), .int (x + 1), .int 1, .int (ptw B dm ncl m), .int 2]) (st2 := []) (M2 := (A3, G, PF)) (hs2 := []) (C := True) [(.iload 4, 0, 0), (.iload 7, 0, 0), (.ior, 0, 0), (.istore 4, 0, 0), (.iinc 5 1, 0, 0)] [] (by decide +kernel) rfl trivial ?_
      refine go_goto (off := -135) 15 (by decide +kernel) (by decide) ?_
      exact hout A3 hEA3 _ _ _
  · skip
    refine go_blk (pc2 := 76) (L2 := [.ref 0, .int (nI mm), .int (wI (Wd B dm ncl) 32), .int (nI k), .int f, .int x, .int 1, .int (ptw B dm ncl m), j8]) (st2 := [.int 0, .int (hv A2 dm (ncl + 1) m)]) (M2 := (A2, G, PF)) (hs2 := []) (C := True) [(.iconst 0, 0, 0)] [] (by decide +kernel) rfl trivial ?_
    refine go_goto (off := 4) 80 (by decide +kernel) (by decide) ?_
    refine go_cmp (cnd := .ne) (off := 14) 94 (by decide +kernel) (by decide) (fun (h : ¬ (hv A2 dm (ncl + 1) m) = 0) => absurd h (fun zz => zz (by rw [pt_hv hEA2 hm]; first | rw [if_pos (by assumption)] | rw [if_neg (by assumption)]))) (fun _ => ?_)
    refine go_blk (pc2 := 84) (L2 := [.ref 0, .int (nI mm), .int (wI (Wd B dm ncl) 32), .int (nI k), .int f, .int x, .int 1, .int (ptw B dm ncl m), j8]) (st2 := [.ref 0]) (M2 := (A2, G, PF)) (hs2 := []) (C := True) [(.aload_n 0, 0, 0)] [] (by decide +kernel) rfl trivial ?_
    refine go_call (Y2 := mX5_pop) (n2 := 27) (st := []) [.ref 0] [] ck_6_49 cwX5_pop rfl (by decide +kernel) rfl (fun h => absurd h (by decide)) (fun _ => ⟨0, rfl, by decide, rfl⟩) (Nat.le_of_ble_eq_true rfl) (Or.inl rfl) (fun _ _ _ h => h) (q_pop l G hEA2 (fun _ => 0)) (fun v M2 hp13 => ?_)
    obtain ⟨rfl, A3, rfl, hEA3⟩ := hp13
    show Go l ro0 mX6_halves 27 (A3, G, PF) 87 [.ref 0, .int (nI mm), .int (wI (Wd B dm ncl) 32), .int (nI k), .int f, .int x, .int 1, .int (ptw B dm ncl m), j8] [.int 0] 27 _
    refine go_blk (pc2 := 91) (L2 := [.ref 0, .int (nI mm), .int (wI (Wd B dm ncl) 32), .int (nI k), .int f, .int x, .int 1, .int (ptw B dm ncl m), j8]) (st2 := [.int (1 - 1), .int 0]) (M2 := (A3, G, PF)) (hs2 := []) (C := True) [(.iload 6, 0, 0), (.iconst 1, 0, 0), (.isub, 0, 0)] [] (by decide +kernel) rfl trivial ?_
    refine go_cmp (cnd := .eq) (off := 5) 96 (by decide +kernel) (by decide) (fun _ => ?_) (fun (h : ¬ (0 : Int32) = (1 - 1)) => absurd h (fun zz => zz (by decide)))
    refine go_blk (pc2 := 98) (L2 := [.ref 0, .int (nI mm), .int (wI (Wd B dm ncl) 32), .int (nI k), .int f, .int x, .int 1, .int (ptw B dm ncl m), j8]) (st2 := [.int (ptw B dm ncl m)]) (M2 := (A3, G, PF)) (hs2 := []) (C := True) [(.iload 7, 0, 0)] [] (by decide +kernel) rfl trivial ?_
    refine go_ifz (cnd := .ne) (off := 7) 105 (by decide +kernel) (by decide) (fun (h : ¬ (ptw B dm ncl m) = 0) => absurd h (fun zz => zz (by assumption))) (fun _ => ?_)
    refine go_blk (pc2 := 102) (L2 := [.ref 0, .int (nI mm), .int (wI (Wd B dm ncl) 32), .int (nI k), .int f, .int x, .int 1, .int (ptw B dm ncl m), j8]) (st2 := [.int 0]) (M2 := (A3, G, PF)) (hs2 := []) (C := True) [(.iconst 0, 0, 0)] [] (by decide +kernel) rfl trivial ?_
    refine go_goto (off := 14) 116 (by decide +kernel) (by decide) ?_
    refine go_blk (pc2 := 121) (L2 := [.ref 0, .int (nI mm), .int (wI (Wd B dm ncl) 32), .int (nI k), .int f, .int x, .int 1, .int (ptw B dm ncl m), .int 0]) (st2 := [.int x, .ref 0]) (M2 := (A3, G, PF)) (hs2 := []) (C := True) [(.istore 8, 0, 0), (.aload_n 0, 0, 0), (.iload 5, 0, 0)] [] (by decide +kernel) rfl trivial ?_
    refine go_call (Y2 := mX5_holds) (n2 := 27) (st := []) [.ref 0] [.int x] ck_6_46 cwX5_holds rfl (by decide +kernel) rfl (fun h => absurd h (by decide)) (fun _ => ⟨0, rfl, by decide, rfl⟩) (Nat.le_of_ble_eq_true rfl) (Or.inl rfl) (fun _ _ _ h => h) (by rw [hx]; exact q_holds l G (show Std A3 dm ncl cnt from hEA3.std hB (by omega)) hm ht) (fun v M2 hp14 => ?_)
    obtain ⟨rfl, rfl⟩ := hp14
    show Go l ro0 mX6_halves 27 (A3, G, PF) 124 [.ref 0, .int (nI mm), .int (wI (Wd B dm ncl) 32), .int (nI k), .int f, .int x, .int 1, .int (ptw B dm ncl m), .int 0] [.int (hv A3 dm ncl m)] 27 _
    refine go_blk (pc2 := 126) (L2 := [.ref 0, .int (nI mm), .int (wI (Wd B dm ncl) 32), .int (nI k), .int f, .int x, .int 1, .int (ptw B dm ncl m), .int 0]) (st2 := [.int 0, .int (hv A3 dm ncl m)]) (M2 := (A3, G, PF)) (hs2 := []) (C := True) [(.iload 8, 0, 0)] [] (by decide +kernel) rfl trivial ?_
    refine go_cmp (cnd := .ne) (off := 12) 138 (by decide +kernel) (by decide) (fun (h : ¬ (hv A3 dm ncl m) = 0) => absurd h (fun zz => zz (by rw [pt_hv0 hEA3]; first | rw [if_pos (by assumption)] | rw [if_neg (by assumption), if_pos (by assumption)] | rw [if_neg (by assumption), if_neg (by assumption)]))) (fun _ => ?_)
    refine go_blk (pc2 := 131) (L2 := [.ref 0, .int (nI mm), .int (wI (Wd B dm ncl) 32), .int (nI k), .int f, .int x, .int 1, .int (ptw B dm ncl m), .int 0]) (st2 := [.int (nI mm), .ref 0]) (M2 := (A3, G, PF)) (hs2 := []) (C := True) [(.aload_n 0, 0, 0), (.iload_n 1, 0, 0)] [] (by decide +kernel) rfl trivial ?_
    refine go_call (Y2 := mX6_set) (n2 := 27) (st := []) [] [.ref 0, .int (nI mm)] ck_6_42 cwX6_set rfl (by decide +kernel) rfl (fun _ => rfl) (fun h => absurd rfl h) (Nat.le_of_ble_eq_true rfl) (Or.inl rfl) (fun _ _ _ h => h) (s_X6_set l A3 G mm P dm ncl cnt hM (hEA3.std hB (by omega))) (fun v M2 hp15 => ?_)
    obtain ⟨rfl, rfl⟩ := hp15
    rw [wd_0 hEA3]
    show Go l ro0 mX6_halves 27 (A3, G, PF) 134 [.ref 0, .int (nI mm), .int (wI (Wd B dm ncl) 32), .int (nI k), .int f, .int x, .int 1, .int (ptw B dm ncl m), .int 0] [.int (wI (Wd B dm ncl) 32)] 27 _
    refine go_blk (pc2 := 135) (L2 := [.ref 0, .int (nI mm), .int (wI (Wd B dm ncl) 32), .int (nI k), .int f, .int x, .int 1, .int (ptw B dm ncl m), .int 0]) (st2 := [.int (wI (Wd B dm ncl) 32), .int (wI (Wd B dm ncl) 32)]) (M2 := (A3, G, PF)) (hs2 := []) (C := True) [(.iload_n 2, 0, 0)] [] (by decide +kernel) rfl trivial ?_
    refine go_cmp (cnd := .eq) (off := 5) 140 (by decide +kernel) (by decide) (fun _ => ?_) (fun (h : ¬ (wI (Wd B dm ncl) 32) = (wI (Wd B dm ncl) 32)) => absurd h (fun zz => zz rfl))
    refine go_blk (pc2 := 150) (L2 := [.ref 0, .int (nI mm), .int (wI (Wd B dm ncl) 32), .int (nI k), .int (f ||| (ptw B dm ncl m)), .int (x + 1), .int 1, .int (ptw B dm ncl m), .int 0]) (st2 := []) (M2 := (A3, G, PF)) (hs2 := []) (C := True) [(.iload 4, 0, 0), (.iload 7, 0, 0), (.ior, 0, 0), (.istore 4, 0, 0), (.iinc 5 1, 0, 0)] [] (by decide +kernel) rfl trivial ?_
    refine go_goto (off := -135) 15 (by decide +kernel) (by decide) ?_
    exact hout A3 hEA3 _ _ _
theorem n2k (k : Nat) : (2 * nI k : Int32) = nI (2 * k) := by
  show Int32.ofNat 2 * Int32.ofNat k = Int32.ofNat (2 * k)
  rw [Int32.ofNat_mul]
theorem n2k1 (k : Nat) : (2 * nI k : Int32) + 1 = nI (2 * k + 1) := by rw [n2k, nI_1]
set_option maxRecDepth 100000 in
set_option maxHeartbeats 4000000 in
theorem lp_X6_halves (l : Launch) (B : Nat → Nat → Int32) (G : Nat → Nat → Int64) (mm P dm ncl cnt : Nat) (hM : Mm mm P dm) (hB : Std B dm ncl cnt) (h3 : ncl ≤ 3) (hmm : mm ≤ 5) : ∀ k, k ≤ mm → ∀ A, Ext B A ncl (fun _ => 0) 0 0 → ∀ j4 j5 j6 j7 j8 : Value, Go l ro0 mX6_halves 27 (A, G, PF) 2 [.ref 0, .int (nI mm), .int (wI (Wd B dm ncl) 32), .int (nI k), j4, j5, j6, j7, j8] [] 27 (fun r M2 => r = some (.int 1) ∧ ∃ A2, M2 = (A2, G, PF) ∧ Ext B A2 ncl (fun _ => 0) 0 0) := by
  refine down mm (fun k hk ih A hE j4 j5 j6 j7 j8 => ?_)
  refine go_blk (pc2 := 4) (L2 := [.ref 0, .int (nI mm), .int (wI (Wd B dm ncl) 32), .int (nI k), j4, j5, j6, j7, j8]) (st2 := [.int (nI mm), .int (nI k)]) (M2 := (A, G, PF)) (hs2 := []) (C := True) [(.iload_n 3, 0, 0), (.iload_n 1, 0, 0)] [] (by decide +kernel) rfl trivial ?_
  refine go_cmp (cnd := .ge) (off := 163) 167 (by decide +kernel) (by decide) (fun (c1 : (nI mm) ≤ (nI k)) => ?_) (fun (c1 : ¬ (nI mm) ≤ (nI k)) => ?_)
  · skip
    replace c1 : mm ≤ k := (nx_le (a := mm) (b := k) rfl rfl (by omega) (by omega)).mp c1
    refine go_blk (pc2 := 168) (L2 := [.ref 0, .int (nI mm), .int (wI (Wd B dm ncl) 32), .int (nI k), j4, j5, j6, j7, j8]) (st2 := [.int 1]) (M2 := (A, G, PF)) (hs2 := []) (C := True) [(.iconst 1, 0, 0)] [] (by decide +kernel) rfl trivial ?_
    exact go_retz (by decide +kernel) rfl (Or.inr rfl) (⟨rfl, A, rfl, hE⟩)
  · skip
    replace c1 : ¬ mm ≤ k := fun zz => c1 ((nx_le (a := mm) (b := k) rfl rfl (by omega) (by omega)).mpr zz)
    refine go_blk (pc2 := 15) (L2 := [.ref 0, .int (nI mm), .int (wI (Wd B dm ncl) 32), .int (nI k), .int 0, .int (2 * (nI k)), j6, j7, j8]) (st2 := []) (M2 := (A, G, PF)) (hs2 := []) (C := True) [(.iconst 0, 0, 0), (.istore 4, 0, 0), (.iconst 2, 0, 0), (.iload_n 3, 0, 0), (.imul, 0, 0), (.istore 5, 0, 0)] [] (by decide +kernel) rfl trivial ?_
    refine go_blk (pc2 := 22) (L2 := [.ref 0, .int (nI mm), .int (wI (Wd B dm ncl) 32), .int (nI k), .int 0, .int (2 * (nI k)), j6, j7, j8]) (st2 := [.int ((2 * (nI k)) + 2), .int (2 * (nI k))]) (M2 := (A, G, PF)) (hs2 := []) (C := True) [(.iload 5, 0, 0), (.iconst 2, 0, 0), (.iload_n 3, 0, 0), (.imul, 0, 0), (.iconst 2, 0, 0), (.iadd, 0, 0)] [] (by decide +kernel) rfl trivial ?_
    refine go_cmp (cnd := .ge) (off := 131) 153 (by decide +kernel) (by decide) (fun (h : ((2 * (nI k)) + 2) ≤ (2 * (nI k))) => absurd h (fun zz => absurd ((nx_le (a := ((2 * k) + 2)) (b := (2 * k)) (by first | rfl | (simp only [nI, Int32.ofNat_add, Int32.ofNat_mul]; done) | (simp only [nI, Int32.ofNat_add, Int32.ofNat_mul]; rfl)) (by first | rfl | (simp only [nI, Int32.ofNat_add, Int32.ofNat_mul]; done) | (simp only [nI, Int32.ofNat_add, Int32.ofNat_mul]; rfl)) (by omega) (by omega)).mp zz) (by omega))) (fun _ => ?_)
    refine lb_X6_halves l B A G mm P dm ncl cnt hM hB h3 k (2 * k) _ (by first | exact n2k k | exact n2k1 k) (by have := hM.le; omega) (hM.tb (2 * k) (by have := hM.le; omega) (by omega)) _ _ _ _ hE (fun B1 hE1 i6 i7 i8 => ?_)
    refine go_blk (pc2 := 22) (L2 := [.ref 0, .int (nI mm), .int (wI (Wd B dm ncl) 32), .int (nI k), .int (0 ||| (ptw B dm ncl (2 * k))), .int ((2 * (nI k)) + 1), i6, i7, i8]) (st2 := [.int ((2 * (nI k)) + 2), .int ((2 * (nI k)) + 1)]) (M2 := (B1, G, PF)) (hs2 := []) (C := True) [(.iload 5, 0, 0), (.iconst 2, 0, 0), (.iload_n 3, 0, 0), (.imul, 0, 0), (.iconst 2, 0, 0), (.iadd, 0, 0)] [] (by decide +kernel) rfl trivial ?_
    refine go_cmp (cnd := .ge) (off := 131) 153 (by decide +kernel) (by decide) (fun (h : ((2 * (nI k)) + 2) ≤ ((2 * (nI k)) + 1)) => absurd h (fun zz => absurd ((nx_le (a := ((2 * k) + 2)) (b := ((2 * k) + 1)) (by first | rfl | (simp only [nI, Int32.ofNat_add, Int32.ofNat_mul]; done) | (simp only [nI, Int32.ofNat_add, Int32.ofNat_mul]; rfl)) (by first | rfl | (simp only [nI, Int32.ofNat_add, Int32.ofNat_mul]; done) | (simp only [nI, Int32.ofNat_add, Int32.ofNat_mul]; rfl)) (by omega) (by omega)).mp zz) (by omega))) (fun _ => ?_)
    refine lb_X6_halves l B B1 G mm P dm ncl cnt hM hB h3 k (2 * k + 1) _ (by first | exact n2k k | exact n2k1 k) (by have := hM.le; omega) (hM.tb (2 * k + 1) (by have := hM.le; omega) (by omega)) _ _ _ _ hE1 (fun B2 hE2 i6 i7 i8 => ?_)
    refine go_blk (pc2 := 22) (L2 := [.ref 0, .int (nI mm), .int (wI (Wd B dm ncl) 32), .int (nI k), .int ((0 ||| (ptw B dm ncl (2 * k))) ||| (ptw B dm ncl (2 * k + 1))), .int (((2 * (nI k)) + 1) + 1), i6, i7, i8]) (st2 := [.int ((2 * (nI k)) + 2), .int (((2 * (nI k)) + 1) + 1)]) (M2 := (B2, G, PF)) (hs2 := []) (C := True) [(.iload 5, 0, 0), (.iconst 2, 0, 0), (.iload_n 3, 0, 0), (.imul, 0, 0), (.iconst 2, 0, 0), (.iadd, 0, 0)] [] (by decide +kernel) rfl trivial ?_
    refine go_cmp (cnd := .ge) (off := 131) 153 (by decide +kernel) (by decide) (fun _ => ?_) (fun (h : ¬ ((2 * (nI k)) + 2) ≤ (((2 * (nI k)) + 1) + 1)) => absurd h (fun zz => zz ((nx_le (a := ((2 * k) + 2)) (b := (((2 * k) + 1) + 1)) (by first | rfl | (simp only [nI, Int32.ofNat_add, Int32.ofNat_mul]; done) | (simp only [nI, Int32.ofNat_add, Int32.ofNat_mul]; rfl)) (by first | rfl | (simp only [nI, Int32.ofNat_add, Int32.ofNat_mul]; done) | (simp only [nI, Int32.ofNat_add, Int32.ofNat_mul]; rfl)) (by omega) (by omega)).mpr (by omega))))
    refine go_blk (pc2 := 156) (L2 := [.ref 0, .int (nI mm), .int (wI (Wd B dm ncl) 32), .int (nI k), .int ((0 ||| (ptw B dm ncl (2 * k))) ||| (ptw B dm ncl (2 * k + 1))), .int (((2 * (nI k)) + 1) + 1), i6, i7, i8]) (st2 := [.int (wI (Wd B dm ncl) 32), .int ((0 ||| (ptw B dm ncl (2 * k))) ||| (ptw B dm ncl (2 * k + 1)))]) (M2 := (B2, G, PF)) (hs2 := []) (C := True) [(.iload 4, 0, 0), (.iload_n 2, 0, 0)] [] (by decide +kernel) rfl trivial ?_
    refine go_cmp (cnd := .eq) (off := 5) 161 (by decide +kernel) (by decide) (fun _ => ?_) (fun (h : ¬ ((0 ||| (ptw B dm ncl (2 * k))) ||| (ptw B dm ncl (2 * k + 1))) = (wI (Wd B dm ncl) 32)) => absurd h (fun zz => zz (pt_or B dm ncl k)))
    refine go_blk (pc2 := 164) (L2 := [.ref 0, .int (nI mm), .int (wI (Wd B dm ncl) 32), .int ((nI k) + 1), .int ((0 ||| (ptw B dm ncl (2 * k))) ||| (ptw B dm ncl (2 * k + 1))), .int (((2 * (nI k)) + 1) + 1), i6, i7, i8]) (st2 := []) (M2 := (B2, G, PF)) (hs2 := []) (C := True) [(.iinc 3 1, 0, 0)] [] (by decide +kernel) rfl trivial ?_
    refine go_goto (off := -162) 2 (by decide +kernel) (by decide) ?_
    exact go_as (ih (by omega) B2 hE2 (.int ((0 ||| (ptw B dm ncl (2 * k))) ||| (ptw B dm ncl (2 * k + 1)))) (.int (((2 * (nI k)) + 1) + 1)) (i6) (i7) (i8)) rfl (by simp only [nI_1]) rfl
set_option maxRecDepth 100000 in
set_option maxHeartbeats 4000000 in
theorem s_X6_halves (l : Launch) (B A : Nat → Nat → Int32) (G : Nat → Nat → Int64) (mm P dm ncl cnt : Nat) (hM : Mm mm P dm) (hB : Std B dm ncl cnt) (h3 : ncl ≤ 3) (hE : Ext B A ncl (fun _ => 0) 0 0) : Sem l mX6_halves [.ref 0, .int (nI mm), .int (wI (Wd B dm ncl) 32)] 27 (A, G, PF) 27 (fun r M2 => r = some (.int 1) ∧ ∃ A2, M2 = (A2, G, PF) ∧ Ext B A2 ncl (fun _ => 0) 0 0) := by
  refine sem_of_go (by decide) rfl (by decide) (by decide) rfl (Nat.le_of_ble_eq_true rfl) ?_
  show Go l ro0 mX6_halves 27 (A, G, PF) 0 [.ref 0, .int (nI mm), .int (wI (Wd B dm ncl) 32), .null, .null, .null, .null, .null, .null] [] 27 (fun r M2 => r = some (.int 1) ∧ ∃ A2, M2 = (A2, G, PF) ∧ Ext B A2 ncl (fun _ => 0) 0 0)
  refine go_blk (pc2 := 2) (L2 := [.ref 0, .int (nI mm), .int (wI (Wd B dm ncl) 32), .int 0, .null, .null, .null, .null, .null]) (st2 := []) (M2 := (A, G, PF)) (hs2 := []) (C := True) [(.iconst 0, 0, 0), (.istore_n 3, 0, 0)] [] (by decide +kernel) rfl trivial ?_
  exact lp_X6_halves l B G mm P dm ncl cnt hM hB h3 hM.le.2.2.2.1 0 (by omega) A hE _ _ _ _ _
