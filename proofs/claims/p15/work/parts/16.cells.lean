theorem snd_c {A A2 : Nat → Nat → Int32} (h : A2 2 = A 2) (s k : Nat) : snd A2 s k = snd A s k := by
  induction k with
  | zero => rfl
  | succ k ih => simp only [snd, h, ih]
theorem ssg_c {A A2 : Nat → Nat → Int32} (h : A2 2 = A 2) (s k : Nat) : ssg A2 s k = ssg A s k := by
  induction k with
  | zero => rfl
  | succ k ih => simp only [ssg, h, ih]
theorem HasF_c {A A2 : Nat → Nat → Int32} (h2 : A2 2 = A 2) (h7 : A2 7 = A 7) (h8 : A2 8 = A 8) (s p : Nat) : HasF A2 s p = HasF A s p := by
  simp only [HasF, Contr, fi, fj, h2, h7, h8]
theorem FOk_c {A A2 : Nat → Nat → Int32} (h2 : A2 2 = A 2) (h7 : A2 7 = A 7) (h8 : A2 8 = A 8) (h : FOk A) : FOk A2 := by
  simpa only [FOk, fi, fj, h2, h7, h8] using h
theorem HavP_c {A A2 : Nat → Nat → Int32} (h : A2 21 = A 21) (nd sg : Int32) (cnt : Nat) : HavP A2 nd sg cnt = HavP A nd sg cnt := by
  have ef : ∀ k, fit A2 nd k = fit A nd k := fun k => by simp only [fit, h]
  have e1 : ∀ k, anyf A2 nd k = anyf A nd k := by
    intro k
    induction k with
    | zero => rfl
    | succ k ih =>
      rcases Classical.em (fit A nd k) with q | q
      · rw [anyf_t q, anyf_t (by rw [ef k]; exact q)]
      · rw [anyf_f q, anyf_f (by rw [ef k]; exact q), ih]
  have e2 : ∀ k, mis A2 nd sg k = mis A nd sg k := by
    intro k
    induction k with
    | zero => rfl
    | succ k ih =>
      rcases Classical.em (fit A nd k) with q | q
      · rw [mis_t q, mis_t (by rw [ef k]; exact q), ih, h]
      · rw [mis_f q, mis_f (by rw [ef k]; exact q), ih]
  simp only [HavP, e1, e2]
noncomputable def ndc (A : Nat → Nat → Int32) (s p : Nat) : Int32 := snd A s 5 ||| pnd p 3
noncomputable def sgc (A : Nat → Nat → Int32) (s p : Nat) : Int32 := ssg A s 5 ||| psg p 3
def Opn (A : Nat → Nat → Int32) (s p cnt : Nat) : Prop := HasF A s p ∧ HavP A (ndc A s p) (sgc A s p) cnt
noncomputable def cel (A : Nat → Nat → Int32) (s p cnt : Nat) : Nat → Nat → Int32 := u2 (u2 (u2 A 24 (s * 5 + p) (ndc A s p)) 25 (s * 5 + p) (sgc A s p)) 23 (s * 5 + p) (bi (Opn A s p cnt))
def CellI (A A2 : Nat → Nat → Int32) (cnt m : Nat) : Prop := (∀ o, o ≠ 23 → o ≠ 24 → o ≠ 25 → A2 o = A o) ∧ ∀ s p, p < 5 → s * 5 + p < m → A2 24 (s * 5 + p) = ndc A s p ∧ A2 25 (s * 5 + p) = sgc A s p ∧ A2 23 (s * 5 + p) = bi (Opn A s p cnt)
theorem CellI.cgr {A A2 : Nat → Nat → Int32} {cnt m : Nat} (h : CellI A A2 cnt m) (s p : Nat) : ndc A2 s p = ndc A s p ∧ sgc A2 s p = sgc A s p ∧ Opn A2 s p cnt = Opn A s p cnt := by
  have e2 := h.1 2 (by decide) (by decide) (by decide)
  have e1 : ndc A2 s p = ndc A s p := by unfold ndc; rw [snd_c e2]
  have e3 : sgc A2 s p = sgc A s p := by unfold sgc; rw [ssg_c e2]
  refine ⟨e1, e3, ?_⟩
  unfold Opn
  rw [e1, e3, HasF_c e2 (h.1 7 (by decide) (by decide) (by decide)) (h.1 8 (by decide) (by decide) (by decide)), HavP_c (h.1 21 (by decide) (by decide) (by decide))]
theorem CellI.add {A A2 : Nat → Nat → Int32} {cnt s p : Nat} (h : CellI A A2 cnt (s * 5 + p)) (hp : p < 5) : CellI A (cel A2 s p cnt) cnt (s * 5 + p + 1) := by
  obtain ⟨g1, g2, g3⟩ := h.cgr s p
  refine ⟨fun o h1 h2 h3 => ?_, fun s2 p2 hp2 hlt => ?_⟩
  · funext k
    unfold cel
    rw [u2_o h1, u2_o h3, u2_o h2, h.1 o h1 h2 h3]
  · by_cases e : s2 * 5 + p2 = s * 5 + p
    · obtain ⟨rfl, rfl⟩ : s2 = s ∧ p2 = p := by omega
      unfold cel
      refine ⟨?_, ?_, ?_⟩
      · rw [u2_o (by decide), u2_o (by decide), u2_s, g1]
      · rw [u2_o (by decide), u2_s, g2]
      · rw [u2_s, g3]
    · obtain ⟨q1, q2, q3⟩ := h.2 s2 p2 hp2 (by omega)
      unfold cel
      refine ⟨?_, ?_, ?_⟩
      · rw [u2_o (by decide), u2_o (by decide), u2_k e, q1]
      · rw [u2_o (by decide), u2_k e, u2_o (by decide), q2]
      · rw [u2_k e, u2_o (by decide), u2_o (by decide), q3]
theorem cell_in {c : Nat} {x : Int32} (h : x = nI c) (hc : c < 160) : 0 ≤ x ∧ x < 160 := by
  subst h
  exact ⟨nI_pos' (by omega), nI_lt hc (by decide)⟩
set_option maxRecDepth 100000 in
set_option maxHeartbeats 4000000 in
theorem s_X1_cellOf (l : Launch) (A : Nat → Nat → Int32) (G : Nat → Nat → Int64) (a b : Int32) : Sem l mX1_cellOf [.int a, .int b] 27 (A, G, PF) 27 (pv (a * 5 + b) (A, G, PF)) := by
  refine sem_of_go (by decide) rfl (by decide) (by decide) rfl (Nat.le_of_ble_eq_true rfl) ?_
  show Go l ro0 mX1_cellOf 27 (A, G, PF) 0 [.int a, .int b] [] 27 (pv (a * 5 + b) (A, G, PF))
  refine go_blk (pc2 := 5) (L2 := [.int a, .int b]) (st2 := [.int ((a * 5) + b)]) (M2 := (A, G, PF)) (hs2 := []) (C := True) [(.iload_n 0, 0, 0), (.iconst 5, 0, 0), (.imul, 0, 0), (.iload_n 1, 0, 0), (.iadd, 0, 0)] [] (by decide +kernel) rfl trivial ?_
  exact go_reti (by decide +kernel) rfl (⟨rfl, rfl⟩)
set_option maxRecDepth 100000 in
set_option maxHeartbeats 4000000 in
theorem s_X1_isCell (l : Launch) (A : Nat → Nat → Int32) (G : Nat → Nat → Int64) (k : Int32) : Sem l mX1_isCell [.int k] 27 (A, G, PF) 27 (pv (bi (0 ≤ k ∧ k < 160)) (A, G, PF)) := by
  refine sem_of_go (by decide) rfl (by decide) (by decide) rfl (Nat.le_of_ble_eq_true rfl) ?_
  show Go l ro0 mX1_isCell 27 (A, G, PF) 0 [.int k] [] 27 (pv (bi (0 ≤ k ∧ k < 160)) (A, G, PF))
  refine go_blk (pc2 := 1) (L2 := [.int k]) (st2 := [.int k]) (M2 := (A, G, PF)) (hs2 := []) (C := True) [(.iload_n 0, 0, 0)] [] (by decide +kernel) rfl trivial ?_
  refine go_ifz (cnd := .lt) (off := 14) 15 (by decide +kernel) (by decide) (fun (c1 : k < 0) => ?_) (fun (c1 : ¬ k < 0) => ?_)
  · skip
    refine go_blk (pc2 := 16) (L2 := [.int k]) (st2 := [.int 0]) (M2 := (A, G, PF)) (hs2 := []) (C := True) [(.iconst 0, 0, 0)] [] (by decide +kernel) rfl trivial ?_
    exact go_retz (by decide +kernel) rfl (Or.inl rfl) (pv0 (by grind))
  · skip
    refine go_blk (pc2 := 8) (L2 := [.int k]) (st2 := [.int 160, .int k]) (M2 := (A, G, PF)) (hs2 := []) (C := True) [(.iload_n 0, 0, 0), (.sipush 160, 0, 0)] [] (by decide +kernel) rfl trivial ?_
    refine go_cmp (cnd := .ge) (off := 7) 15 (by decide +kernel) (by decide) (fun (c2 : 160 ≤ k) => ?_) (fun (c2 : ¬ 160 ≤ k) => ?_)
    · skip
      refine go_blk (pc2 := 16) (L2 := [.int k]) (st2 := [.int 0]) (M2 := (A, G, PF)) (hs2 := []) (C := True) [(.iconst 0, 0, 0)] [] (by decide +kernel) rfl trivial ?_
      exact go_retz (by decide +kernel) rfl (Or.inl rfl) (pv0 (by grind))
    · skip
      refine go_blk (pc2 := 12) (L2 := [.int k]) (st2 := [.int 1]) (M2 := (A, G, PF)) (hs2 := []) (C := True) [(.iconst 1, 0, 0)] [] (by decide +kernel) rfl trivial ?_
      refine go_goto (off := 4) 16 (by decide +kernel) (by decide) ?_
      exact go_retz (by decide +kernel) rfl (Or.inr rfl) (pv1 (by grind))
set_option maxRecDepth 100000 in
set_option maxHeartbeats 4000000 in
theorem s_X1_rebuildCell (l : Launch) (A : Nat → Nat → Int32) (G : Nat → Nat → Int64) (cnt : Nat) (hc : A 12 9 = nI cnt) (hc364 : cnt ≤ 364) (hF : FOk A) (s : Nat) (hs : s < 32) (p : Nat) (hp : p < 5) : Sem l mX1_rebuildCell [.ref 22, .int (nI s), .int (nI p), .ref 1, .ref 12] 27 (A, G, PF) 27 (pm (cel A s p cnt, G, PF)) := by
  refine sem_of_go (by decide) rfl (by decide) (by decide) rfl (Nat.le_of_ble_eq_true rfl) ?_
  show Go l ro0 mX1_rebuildCell 27 (A, G, PF) 0 [.ref 22, .int (nI s), .int (nI p), .ref 1, .ref 12, .null] [] 27 (pm (cel A s p cnt, G, PF))
  refine go_blk (pc2 := 2) (L2 := [.ref 22, .int (nI s), .int (nI p), .ref 1, .ref 12, .null]) (st2 := [.int (nI p), .int (nI s)]) (M2 := (A, G, PF)) (hs2 := []) (C := True) [(.iload_n 1, 0, 0), (.iload_n 2, 0, 0)] [] (by decide +kernel) rfl trivial ?_
  refine go_call (Y2 := mX1_cellOf) (n2 := 27) (st := []) [] [.int (nI s), .int (nI p)] ck_1_26 cwX1_cellOf rfl (by decide +kernel) rfl (fun _ => rfl) (fun h => absurd rfl h) (Nat.le_of_ble_eq_true rfl) (Or.inl rfl) (fun _ _ _ h => h) (s_X1_cellOf l A G (nI s) (nI p)) (fun v M2 hp1 => ?_)
  obtain ⟨rfl, rfl⟩ := hp1
  show Go l ro0 mX1_rebuildCell 27 (A, G, PF) 5 [.ref 22, .int (nI s), .int (nI p), .ref 1, .ref 12, .null] [.int ((nI s) * 5 + (nI p))] 27 _
  refine go_blk (pc2 := 9) (L2 := [.ref 22, .int (nI s), .int (nI p), .ref 1, .ref 12, .int ((nI s) * 5 + (nI p))]) (st2 := [.int ((nI s) * 5 + (nI p))]) (M2 := (A, G, PF)) (hs2 := []) (C := True) [(.istore 5, 0, 0), (.iload 5, 0, 0)] [] (by decide +kernel) rfl trivial ?_
  refine go_call (Y2 := mX1_isCell) (n2 := 27) (st := []) [] [.int ((nI s) * 5 + (nI p))] ck_1_30 cwX1_isCell rfl (by decide +kernel) rfl (fun _ => rfl) (fun h => absurd rfl h) (Nat.le_of_ble_eq_true rfl) (Or.inl rfl) (fun _ _ _ h => h) (s_X1_isCell l A G ((nI s) * 5 + (nI p))) (fun v M2 hp2 => ?_)
  obtain ⟨rfl, rfl⟩ := hp2
  rw [bi_t (cell_in (c := (s * 5 + p)) (by first | rfl | (simp only [nI, Int32.ofNat_add, Int32.ofNat_mul]; done) | (simp only [nI, Int32.ofNat_add, Int32.ofNat_mul]; rfl)) (by omega))]
  show Go l ro0 mX1_rebuildCell 27 (A, G, PF) 12 [.ref 22, .int (nI s), .int (nI p), .ref 1, .ref 12, .int ((nI s) * 5 + (nI p))] [.int 1] 27 _
  refine go_ifz (cnd := .eq) (off := 80) 92 (by decide +kernel) (by decide) (fun (h : (1 : Int32) = 0) => absurd h (by decide)) (fun _ => ?_)
  refine go_blk (pc2 := 23) (L2 := [.ref 22, .int (nI s), .int (nI p), .ref 1, .ref 12, .int ((nI s) * 5 + (nI p))]) (st2 := [.int (nI s), .ref 1, .int ((nI s) * 5 + (nI p)), .ref 24]) (M2 := (A, G, PF)) (hs2 := []) (C := True) [(.aload_n 0, 0, 0), (.getfield 15, 1, 1), (.iload 5, 0, 0), (.aload_n 3, 0, 0), (.iload_n 1, 0, 0)] [] (by decide +kernel) rfl trivial ?_
  refine go_call (Y2 := mX0_sidesNeeded) (n2 := 27) (st := [.int ((nI s) * 5 + (nI p)), .ref 24]) [.ref 1] [.int (nI s)] ck_1_34 cwX0_sidesNeeded rfl (by decide +kernel) rfl (fun h => absurd h (by decide)) (fun _ => ⟨1, rfl, by decide, rfl⟩) (Nat.le_of_ble_eq_true rfl) (Or.inl rfl) (fun _ _ _ h => h) (s_X0_sidesNeeded l A G s hs) (fun v M2 hp3 => ?_)
  obtain ⟨rfl, rfl⟩ := hp3
  show Go l ro0 mX1_rebuildCell 27 (A, G, PF) 26 [.ref 22, .int (nI s), .int (nI p), .ref 1, .ref 12, .int ((nI s) * 5 + (nI p))] [.int (snd A s 5), .int ((nI s) * 5 + (nI p)), .ref 24] 27 _
  refine go_blk (pc2 := 27) (L2 := [.ref 22, .int (nI s), .int (nI p), .ref 1, .ref 12, .int ((nI s) * 5 + (nI p))]) (st2 := [.int (nI p), .int (snd A s 5), .int ((nI s) * 5 + (nI p)), .ref 24]) (M2 := (A, G, PF)) (hs2 := []) (C := True) [(.iload_n 2, 0, 0)] [] (by decide +kernel) rfl trivial ?_
  refine go_call (Y2 := mX1_pairsNeeded) (n2 := 27) (st := [.int (snd A s 5), .int ((nI s) * 5 + (nI p)), .ref 24]) [] [.int (nI p)] ck_1_40 cwX1_pairsNeeded rfl (by decide +kernel) rfl (fun _ => rfl) (fun h => absurd rfl h) (Nat.le_of_ble_eq_true rfl) (Or.inl rfl) (fun _ _ _ h => h) (s_X1_pairsNeeded l A G p hp) (fun v M2 hp4 => ?_)
  obtain ⟨rfl, rfl⟩ := hp4
  show Go l ro0 mX1_rebuildCell 27 (A, G, PF) 30 [.ref 22, .int (nI s), .int (nI p), .ref 1, .ref 12, .int ((nI s) * 5 + (nI p))] [.int (pnd p 3), .int (snd A s 5), .int ((nI s) * 5 + (nI p)), .ref 24] 27 _
  refine go_blk (pc2 := 40) (L2 := [.ref 22, .int (nI s), .int (nI p), .ref 1, .ref 12, .int ((nI s) * 5 + (nI p))]) (st2 := [.int (nI s), .ref 1, .int ((nI s) * 5 + (nI p)), .ref 25]) (M2 := ((u2 A 24 (s * 5 + p) ((snd A s 5) ||| (pnd p 3))), G, PF)) (hs2 := []) (C := (((nI s) * 5 + (nI p)) = nI (s * 5 + p) ∧ (s * 5 + p) < 160) ∧ True) [(.ior, 0, 0), (.iastore, 0, 0), (.aload_n 0, 0, 0), (.getfield 19, 1, 2), (.iload 5, 0, 0), (.aload_n 3, 0, 0), (.iload_n 1, 0, 0)] [(s * 5 + p)] (by decide +kernel) rfl ⟨⟨(by first | rfl | (simp only [nI, Int32.ofNat_add, Int32.ofNat_mul]; done) | (simp only [nI, Int32.ofNat_add, Int32.ofNat_mul]; rfl)), by omega⟩, trivial⟩ ?_
  refine go_call (Y2 := mX0_sidesSought) (n2 := 27) (st := [.int ((nI s) * 5 + (nI p)), .ref 25]) [.ref 1] [.int (nI s)] ck_1_43 cwX0_sidesSought rfl (by decide +kernel) rfl (fun h => absurd h (by decide)) (fun _ => ⟨1, rfl, by decide, rfl⟩) (Nat.le_of_ble_eq_true rfl) (Or.inl rfl) (fun _ _ _ h => h) (s_X0_sidesSought l (u2 A 24 (s * 5 + p) ((snd A s 5) ||| (pnd p 3))) G s hs) (fun v M2 hp5 => ?_)
  obtain ⟨rfl, rfl⟩ := hp5
  rw [ssg_c (A2 := (u2 A 24 (s * 5 + p) ((snd A s 5) ||| (pnd p 3)))) (A := A) rfl]
  show Go l ro0 mX1_rebuildCell 27 ((u2 A 24 (s * 5 + p) ((snd A s 5) ||| (pnd p 3))), G, PF) 43 [.ref 22, .int (nI s), .int (nI p), .ref 1, .ref 12, .int ((nI s) * 5 + (nI p))] [.int (ssg A s 5), .int ((nI s) * 5 + (nI p)), .ref 25] 27 _
  refine go_blk (pc2 := 44) (L2 := [.ref 22, .int (nI s), .int (nI p), .ref 1, .ref 12, .int ((nI s) * 5 + (nI p))]) (st2 := [.int (nI p), .int (ssg A s 5), .int ((nI s) * 5 + (nI p)), .ref 25]) (M2 := ((u2 A 24 (s * 5 + p) ((snd A s 5) ||| (pnd p 3))), G, PF)) (hs2 := []) (C := True) [(.iload_n 2, 0, 0)] [] (by decide +kernel) rfl trivial ?_
  refine go_call (Y2 := mX1_pairsSought) (n2 := 27) (st := [.int (ssg A s 5), .int ((nI s) * 5 + (nI p)), .ref 25]) [] [.int (nI p)] ck_1_46 cwX1_pairsSought rfl (by decide +kernel) rfl (fun _ => rfl) (fun h => absurd rfl h) (Nat.le_of_ble_eq_true rfl) (Or.inl rfl) (fun _ _ _ h => h) (s_X1_pairsSought l (u2 A 24 (s * 5 + p) ((snd A s 5) ||| (pnd p 3))) G p hp) (fun v M2 hp6 => ?_)
  obtain ⟨rfl, rfl⟩ := hp6
  show Go l ro0 mX1_rebuildCell 27 ((u2 A 24 (s * 5 + p) ((snd A s 5) ||| (pnd p 3))), G, PF) 47 [.ref 22, .int (nI s), .int (nI p), .ref 1, .ref 12, .int ((nI s) * 5 + (nI p))] [.int (psg p 3), .int (ssg A s 5), .int ((nI s) * 5 + (nI p)), .ref 25] 27 _
  refine go_blk (pc2 := 58) (L2 := [.ref 22, .int (nI s), .int (nI p), .ref 1, .ref 12, .int ((nI s) * 5 + (nI p))]) (st2 := [.int (nI p), .int (nI s), .ref 1, .int ((nI s) * 5 + (nI p)), .ref 23]) (M2 := ((u2 (u2 A 24 (s * 5 + p) ((snd A s 5) ||| (pnd p 3))) 25 (s * 5 + p) ((ssg A s 5) ||| (psg p 3))), G, PF)) (hs2 := []) (C := (((nI s) * 5 + (nI p)) = nI (s * 5 + p) ∧ (s * 5 + p) < 160) ∧ True) [(.ior, 0, 0), (.iastore, 0, 0), (.aload_n 0, 0, 0), (.getfield 9, 1, 0), (.iload 5, 0, 0), (.aload_n 3, 0, 0), (.iload_n 1, 0, 0), (.iload_n 2, 0, 0)] [(s * 5 + p)] (by decide +kernel) rfl ⟨⟨(by first | rfl | (simp only [nI, Int32.ofNat_add, Int32.ofNat_mul]; done) | (simp only [nI, Int32.ofNat_add, Int32.ofNat_mul]; rfl)), by omega⟩, trivial⟩ ?_
  refine go_call (Y2 := mX0_hasFunction) (n2 := 27) (st := [.int ((nI s) * 5 + (nI p)), .ref 23]) [.ref 1] [.int (nI s), .int (nI p)] ck_1_49 cwX0_hasFunction rfl (by decide +kernel) rfl (fun h => absurd h (by decide)) (fun _ => ⟨1, rfl, by decide, rfl⟩) (Nat.le_of_ble_eq_true rfl) (Or.inl rfl) (fun _ _ _ h => h) (s_X0_hasFunction l (u2 (u2 A 24 (s * 5 + p) ((snd A s 5) ||| (pnd p 3))) 25 (s * 5 + p) ((ssg A s 5) ||| (psg p 3))) G s hs p hp (FOk_c rfl rfl rfl hF)) (fun v M2 hp7 => ?_)
  obtain ⟨rfl, rfl⟩ := hp7
  rw [HasF_c (A2 := (u2 (u2 A 24 (s * 5 + p) ((snd A s 5) ||| (pnd p 3))) 25 (s * 5 + p) ((ssg A s 5) ||| (psg p 3)))) (A := A) rfl rfl rfl]
  rcases Classical.em (HasF A s p) with hb8 | hb8
  · rw [bi_t hb8]
    show Go l ro0 mX1_rebuildCell 27 ((u2 (u2 A 24 (s * 5 + p) ((snd A s 5) ||| (pnd p 3))) 25 (s * 5 + p) ((ssg A s 5) ||| (psg p 3))), G, PF) 61 [.ref 22, .int (nI s), .int (nI p), .ref 1, .ref 12, .int ((nI s) * 5 + (nI p))] [.int 1, .int ((nI s) * 5 + (nI p)), .ref 23] 27 _
    refine go_ifz (cnd := .eq) (off := 29) 90 (by decide +kernel) (by decide) (fun (h : (1 : Int32) = 0) => absurd h (by decide)) (fun _ => ?_)
    refine go_blk (pc2 := 80) (L2 := [.ref 22, .int (nI s), .int (nI p), .ref 1, .ref 12, .int ((nI s) * 5 + (nI p))]) (st2 := [.int ((u2 (u2 A 24 (s * 5 + p) ((snd A s 5) ||| (pnd p 3))) 25 (s * 5 + p) ((ssg A s 5) ||| (psg p 3))) 25 (s * 5 + p)), .int ((u2 (u2 A 24 (s * 5 + p) ((snd A s 5) ||| (pnd p 3))) 25 (s * 5 + p) ((ssg A s 5) ||| (psg p 3))) 24 (s * 5 + p)), .ref 12, .int ((nI s) * 5 + (nI p)), .ref 23]) (M2 := ((u2 (u2 A 24 (s * 5 + p) ((snd A s 5) ||| (pnd p 3))) 25 (s * 5 + p) ((ssg A s 5) ||| (psg p 3))), G, PF)) (hs2 := []) (C := (((nI s) * 5 + (nI p)) = nI (s * 5 + p) ∧ (s * 5 + p) < 160) ∧ (((nI s) * 5 + (nI p)) = nI (s * 5 + p) ∧ (s * 5 + p) < 160) ∧ True) [(.aload 4, 0, 0), (.aload_n 0, 0, 0), (.getfield 15, 1, 1), (.iload 5, 0, 0), (.iaload, 0, 0), (.aload_n 0, 0, 0), (.getfield 19, 1, 2), (.iload 5, 0, 0), (.iaload, 0, 0)] [(s * 5 + p), (s * 5 + p)] (by decide +kernel) rfl ⟨⟨(by first | rfl | (simp only [nI, Int32.ofNat_add, Int32.ofNat_mul]; done) | (simp only [nI, Int32.ofNat_add, Int32.ofNat_mul]; rfl)), by omega⟩, ⟨(by first | rfl | (simp only [nI, Int32.ofNat_add, Int32.ofNat_mul]; done) | (simp only [nI, Int32.ofNat_add, Int32.ofNat_mul]; rfl)), by omega⟩, trivial⟩ ?_
    rw [show ((u2 (u2 A 24 (s * 5 + p) ((snd A s 5) ||| (pnd p 3))) 25 (s * 5 + p) ((ssg A s 5) ||| (psg p 3))) 24 (s * 5 + p) : Int32) = ((snd A s 5) ||| (pnd p 3)) from by simp [u2]]
    rw [show ((u2 (u2 A 24 (s * 5 + p) ((snd A s 5) ||| (pnd p 3))) 25 (s * 5 + p) ((ssg A s 5) ||| (psg p 3))) 25 (s * 5 + p) : Int32) = ((ssg A s 5) ||| (psg p 3)) from by simp [u2]]
    refine go_call (Y2 := mX3_havePoint) (n2 := 27) (st := [.int ((nI s) * 5 + (nI p)), .ref 23]) [.ref 12] [.int ((snd A s 5) ||| (pnd p 3)), .int ((ssg A s 5) ||| (psg p 3))] ck_1_53 cwX3_havePoint rfl (by decide +kernel) rfl (fun h => absurd h (by decide)) (fun _ => ⟨12, rfl, by decide, rfl⟩) (Nat.le_of_ble_eq_true rfl) (Or.inl rfl) (fun _ _ _ h => h) (s_X3_havePoint l (u2 (u2 A 24 (s * 5 + p) ((snd A s 5) ||| (pnd p 3))) 25 (s * 5 + p) ((ssg A s 5) ||| (psg p 3))) G cnt hc hc364 ((snd A s 5) ||| (pnd p 3)) ((ssg A s 5) ||| (psg p 3))) (fun v M2 hp9 => ?_)
    obtain ⟨rfl, rfl⟩ := hp9
    rw [HavP_c (A2 := (u2 (u2 A 24 (s * 5 + p) ((snd A s 5) ||| (pnd p 3))) 25 (s * 5 + p) ((ssg A s 5) ||| (psg p 3)))) (A := A) rfl]
    rcases Classical.em (HavP A ((snd A s 5) ||| (pnd p 3)) ((ssg A s 5) ||| (psg p 3)) cnt) with hb10 | hb10
    · rw [bi_t hb10]
      show Go l ro0 mX1_rebuildCell 27 ((u2 (u2 A 24 (s * 5 + p) ((snd A s 5) ||| (pnd p 3))) 25 (s * 5 + p) ((ssg A s 5) ||| (psg p 3))), G, PF) 83 [.ref 22, .int (nI s), .int (nI p), .ref 1, .ref 12, .int ((nI s) * 5 + (nI p))] [.int 1, .int ((nI s) * 5 + (nI p)), .ref 23] 27 _
      refine go_ifz (cnd := .eq) (off := 7) 90 (by decide +kernel) (by decide) (fun (h : (1 : Int32) = 0) => absurd h (by decide)) (fun _ => ?_)
      refine go_blk (pc2 := 87) (L2 := [.ref 22, .int (nI s), .int (nI p), .ref 1, .ref 12, .int ((nI s) * 5 + (nI p))]) (st2 := [.int 1, .int ((nI s) * 5 + (nI p)), .ref 23]) (M2 := ((u2 (u2 A 24 (s * 5 + p) ((snd A s 5) ||| (pnd p 3))) 25 (s * 5 + p) ((ssg A s 5) ||| (psg p 3))), G, PF)) (hs2 := []) (C := True) [(.iconst 1, 0, 0)] [] (by decide +kernel) rfl trivial ?_
      refine go_goto (off := 4) 91 (by decide +kernel) (by decide) ?_
      refine go_blk (pc2 := 92) (L2 := [.ref 22, .int (nI s), .int (nI p), .ref 1, .ref 12, .int ((nI s) * 5 + (nI p))]) (st2 := []) (M2 := ((u2 (u2 (u2 A 24 (s * 5 + p) ((snd A s 5) ||| (pnd p 3))) 25 (s * 5 + p) ((ssg A s 5) ||| (psg p 3))) 23 (s * 5 + p) 1), G, PF)) (hs2 := []) (C := (((nI s) * 5 + (nI p)) = nI (s * 5 + p) ∧ (s * 5 + p) < 160 ∧ (1 = 0 ∨ 1 = 1)) ∧ True) [(.bastore, 0, 0)] [(s * 5 + p)] (by decide +kernel) rfl ⟨⟨(by first | rfl | (simp only [nI, Int32.ofNat_add, Int32.ofNat_mul]; done) | (simp only [nI, Int32.ofNat_add, Int32.ofNat_mul]; rfl)), by omega, Or.inr rfl⟩, trivial⟩ ?_
      exact go_retv (by decide +kernel) rfl (⟨rfl, by unfold cel; first | rw [bi_t (show Opn A s p cnt from ⟨by assumption, by assumption⟩)]; rfl | (rw [bi_f (show ¬ Opn A s p cnt from fun zz => absurd zz.1 (by assumption))]; rfl) | (rw [bi_f (show ¬ Opn A s p cnt from fun zz => absurd zz.2 (by assumption))]; rfl)⟩)
    · rw [bi_f hb10]
      show Go l ro0 mX1_rebuildCell 27 ((u2 (u2 A 24 (s * 5 + p) ((snd A s 5) ||| (pnd p 3))) 25 (s * 5 + p) ((ssg A s 5) ||| (psg p 3))), G, PF) 83 [.ref 22, .int (nI s), .int (nI p), .ref 1, .ref 12, .int ((nI s) * 5 + (nI p))] [.int 0, .int ((nI s) * 5 + (nI p)), .ref 23] 27 _
      refine go_ifz (cnd := .eq) (off := 7) 90 (by decide +kernel) (by decide) (fun _ => ?_) (fun (h : ¬ (0 : Int32) = 0) => absurd h (by decide))
      refine go_blk (pc2 := 92) (L2 := [.ref 22, .int (nI s), .int (nI p), .ref 1, .ref 12, .int ((nI s) * 5 + (nI p))]) (st2 := []) (M2 := ((u2 (u2 (u2 A 24 (s * 5 + p) ((snd A s 5) ||| (pnd p 3))) 25 (s * 5 + p) ((ssg A s 5) ||| (psg p 3))) 23 (s * 5 + p) 0), G, PF)) (hs2 := []) (C := (((nI s) * 5 + (nI p)) = nI (s * 5 + p) ∧ (s * 5 + p) < 160 ∧ (0 = 0 ∨ 0 = 1)) ∧ True) [(.iconst 0, 0, 0), (.bastore, 0, 0)] [(s * 5 + p)] (by decide +kernel) rfl ⟨⟨(by first | rfl | (simp only [nI, Int32.ofNat_add, Int32.ofNat_mul]; done) | (simp only [nI, Int32.ofNat_add, Int32.ofNat_mul]; rfl)), by omega, Or.inl rfl⟩, trivial⟩ ?_
      exact go_retv (by decide +kernel) rfl (⟨rfl, by unfold cel; first | rw [bi_t (show Opn A s p cnt from ⟨by assumption, by assumption⟩)]; rfl | (rw [bi_f (show ¬ Opn A s p cnt from fun zz => absurd zz.1 (by assumption))]; rfl) | (rw [bi_f (show ¬ Opn A s p cnt from fun zz => absurd zz.2 (by assumption))]; rfl)⟩)
  · rw [bi_f hb8]
    show Go l ro0 mX1_rebuildCell 27 ((u2 (u2 A 24 (s * 5 + p) ((snd A s 5) ||| (pnd p 3))) 25 (s * 5 + p) ((ssg A s 5) ||| (psg p 3))), G, PF) 61 [.ref 22, .int (nI s), .int (nI p), .ref 1, .ref 12, .int ((nI s) * 5 + (nI p))] [.int 0, .int ((nI s) * 5 + (nI p)), .ref 23] 27 _
    refine go_ifz (cnd := .eq) (off := 29) 90 (by decide +kernel) (by decide) (fun _ => ?_) (fun (h : ¬ (0 : Int32) = 0) => absurd h (by decide))
    refine go_blk (pc2 := 92) (L2 := [.ref 22, .int (nI s), .int (nI p), .ref 1, .ref 12, .int ((nI s) * 5 + (nI p))]) (st2 := []) (M2 := ((u2 (u2 (u2 A 24 (s * 5 + p) ((snd A s 5) ||| (pnd p 3))) 25 (s * 5 + p) ((ssg A s 5) ||| (psg p 3))) 23 (s * 5 + p) 0), G, PF)) (hs2 := []) (C := (((nI s) * 5 + (nI p)) = nI (s * 5 + p) ∧ (s * 5 + p) < 160 ∧ (0 = 0 ∨ 0 = 1)) ∧ True) [(.iconst 0, 0, 0), (.bastore, 0, 0)] [(s * 5 + p)] (by decide +kernel) rfl ⟨⟨(by first | rfl | (simp only [nI, Int32.ofNat_add, Int32.ofNat_mul]; done) | (simp only [nI, Int32.ofNat_add, Int32.ofNat_mul]; rfl)), by omega, Or.inl rfl⟩, trivial⟩ ?_
    exact go_retv (by decide +kernel) rfl (⟨rfl, by unfold cel; first | rw [bi_t (show Opn A s p cnt from ⟨by assumption, by assumption⟩)]; rfl | (rw [bi_f (show ¬ Opn A s p cnt from fun zz => absurd zz.1 (by assumption))]; rfl) | (rw [bi_f (show ¬ Opn A s p cnt from fun zz => absurd zz.2 (by assumption))]; rfl)⟩)
set_option maxRecDepth 100000 in
set_option maxHeartbeats 4000000 in
theorem lp_X1_rebuild (l : Launch) (A : Nat → Nat → Int32) (G : Nat → Nat → Int64) (cnt : Nat) (hc : A 12 9 = nI cnt) (hc364 : cnt ≤ 364) (hF : FOk A) (s : Nat) (hs : s < 32) (hout : ∀ A2, CellI A A2 cnt ((s + 1) * 5) → ∀ j : Value, Go l ro0 mX1_rebuild 27 (A2, G, PF) 2 [.ref 22, .ref 1, .ref 12, .int (nI (s + 1)), j] [] 27 (fun r M2 => r = none ∧ ∃ A2, M2 = (A2, G, PF) ∧ CellI A A2 cnt 160)) : ∀ p, p ≤ 5 → ∀ A2, CellI A A2 cnt (s * 5 + p) → Go l ro0 mX1_rebuild 27 (A2, G, PF) 11 [.ref 22, .ref 1, .ref 12, .int (nI s), .int (nI p)] [] 27 (fun r M2 => r = none ∧ ∃ A2, M2 = (A2, G, PF) ∧ CellI A A2 cnt 160) := by
  refine down 5 (fun p hp ih A2 hI => ?_)
  refine go_blk (pc2 := 14) (L2 := [.ref 22, .ref 1, .ref 12, .int (nI s), .int (nI p)]) (st2 := [.int 5, .int (nI p)]) (M2 := (A2, G, PF)) (hs2 := []) (C := True) [(.iload 4, 0, 0), (.iconst 5, 0, 0)] [] (by decide +kernel) rfl trivial ?_
  refine go_cmp (cnd := .ge) (off := 18) 32 (by decide +kernel) (by decide) (fun (c1 : 5 ≤ (nI p)) => ?_) (fun (c1 : ¬ 5 ≤ (nI p)) => ?_)
  · skip
    replace c1 : 5 ≤ p := (nx_le (a := 5) (b := p) rfl rfl (by omega) (by omega)).mp c1
    refine go_blk (pc2 := 35) (L2 := [.ref 22, .ref 1, .ref 12, .int ((nI s) + 1), .int (nI p)]) (st2 := []) (M2 := (A2, G, PF)) (hs2 := []) (C := True) [(.iinc 3 1, 0, 0)] [] (by decide +kernel) rfl trivial ?_
    refine go_goto (off := -33) 2 (by decide +kernel) (by decide) ?_
    exact go_as (hout A2 (by rw [show (s + 1) * 5 = s * 5 + p by omega]; exact hI) (.int (nI p))) rfl (by simp only [nI_1]) rfl
  · skip
    replace c1 : ¬ 5 ≤ p := fun zz => c1 ((nx_le (a := 5) (b := p) rfl rfl (by omega) (by omega)).mpr zz)
    refine go_blk (pc2 := 23) (L2 := [.ref 22, .ref 1, .ref 12, .int (nI s), .int (nI p)]) (st2 := [.ref 12, .ref 1, .int (nI p), .int (nI s), .ref 22]) (M2 := (A2, G, PF)) (hs2 := []) (C := True) [(.aload_n 0, 0, 0), (.iload_n 3, 0, 0), (.iload 4, 0, 0), (.aload_n 1, 0, 0), (.aload_n 2, 0, 0)] [] (by decide +kernel) rfl trivial ?_
    refine go_call (Y2 := mX1_rebuildCell) (n2 := 27) (st := []) [.ref 22] [.int (nI s), .int (nI p), .ref 1, .ref 12] ck_1_22 cwX1_rebuildCell rfl (by decide +kernel) rfl (fun h => absurd h (by decide)) (fun _ => ⟨22, rfl, by decide, rfl⟩) (Nat.le_of_ble_eq_true rfl) (Or.inl rfl) (fun _ _ _ h => h) (s_X1_rebuildCell l A2 G cnt (by rw [hI.1 12 (by decide) (by decide) (by decide)]; exact hc) hc364 (FOk_c (hI.1 2 (by decide) (by decide) (by decide)) (hI.1 7 (by decide) (by decide) (by decide)) (hI.1 8 (by decide) (by decide) (by decide)) hF) s hs p (by omega)) (fun v M2 hp2 => ?_)
    obtain ⟨rfl, rfl⟩ := hp2
    show Go l ro0 mX1_rebuild 27 ((cel A2 s p cnt), G, PF) 26 [.ref 22, .ref 1, .ref 12, .int (nI s), .int (nI p)] [] 27 _
    refine go_blk (pc2 := 29) (L2 := [.ref 22, .ref 1, .ref 12, .int (nI s), .int ((nI p) + 1)]) (st2 := []) (M2 := ((cel A2 s p cnt), G, PF)) (hs2 := []) (C := True) [(.iinc 4 1, 0, 0)] [] (by decide +kernel) rfl trivial ?_
    refine go_goto (off := -18) 11 (by decide +kernel) (by decide) ?_
    exact go_as (ih (by omega) _ (hI.add (by omega))) rfl (by simp only [nI_1]) rfl
set_option maxRecDepth 100000 in
set_option maxHeartbeats 4000000 in
theorem ls_X1_rebuild (l : Launch) (A : Nat → Nat → Int32) (G : Nat → Nat → Int64) (cnt : Nat) (hc : A 12 9 = nI cnt) (hc364 : cnt ≤ 364) (hF : FOk A) : ∀ s, s ≤ 32 → ∀ A2, CellI A A2 cnt (s * 5) → ∀ j : Value, Go l ro0 mX1_rebuild 27 (A2, G, PF) 2 [.ref 22, .ref 1, .ref 12, .int (nI s), j] [] 27 (fun r M2 => r = none ∧ ∃ A2, M2 = (A2, G, PF) ∧ CellI A A2 cnt 160) := by
  refine down 32 (fun s hs ih A2 hI j => ?_)
  refine go_blk (pc2 := 5) (L2 := [.ref 22, .ref 1, .ref 12, .int (nI s), j]) (st2 := [.int 32, .int (nI s)]) (M2 := (A2, G, PF)) (hs2 := []) (C := True) [(.iload_n 3, 0, 0), (.bipush 32, 0, 0)] [] (by decide +kernel) rfl trivial ?_
  refine go_cmp (cnd := .ge) (off := 33) 38 (by decide +kernel) (by decide) (fun (c1 : 32 ≤ (nI s)) => ?_) (fun (c1 : ¬ 32 ≤ (nI s)) => ?_)
  · skip
    replace c1 : 32 ≤ s := (nx_le (a := 32) (b := s) rfl rfl (by omega) (by omega)).mp c1
    exact go_retv (by decide +kernel) rfl (⟨rfl, A2, rfl, by rw [show 160 = s * 5 by omega]; exact hI⟩)
  · skip
    replace c1 : ¬ 32 ≤ s := fun zz => c1 ((nx_le (a := 32) (b := s) rfl rfl (by omega) (by omega)).mpr zz)
    refine go_blk (pc2 := 11) (L2 := [.ref 22, .ref 1, .ref 12, .int (nI s), .int 0]) (st2 := []) (M2 := (A2, G, PF)) (hs2 := []) (C := True) [(.iconst 0, 0, 0), (.istore 4, 0, 0)] [] (by decide +kernel) rfl trivial ?_
    exact lp_X1_rebuild l A G cnt hc hc364 hF s (by omega) (fun A3 h3 j3 => ih (by omega) A3 h3 j3) 0 (by omega) A2 hI
set_option maxRecDepth 100000 in
set_option maxHeartbeats 4000000 in
theorem s_X1_rebuild (l : Launch) (A : Nat → Nat → Int32) (G : Nat → Nat → Int64) (cnt : Nat) (hc : A 12 9 = nI cnt) (hc364 : cnt ≤ 364) (hF : FOk A) : Sem l mX1_rebuild [.ref 22, .ref 1, .ref 12] 27 (A, G, PF) 27 (fun r M2 => r = none ∧ ∃ A2, M2 = (A2, G, PF) ∧ CellI A A2 cnt 160) := by
  refine sem_of_go (by decide) rfl (by decide) (by decide) rfl (Nat.le_of_ble_eq_true rfl) ?_
  show Go l ro0 mX1_rebuild 27 (A, G, PF) 0 [.ref 22, .ref 1, .ref 12, .null, .null] [] 27 (fun r M2 => r = none ∧ ∃ A2, M2 = (A2, G, PF) ∧ CellI A A2 cnt 160)
  refine go_blk (pc2 := 2) (L2 := [.ref 22, .ref 1, .ref 12, .int 0, .null]) (st2 := []) (M2 := (A, G, PF)) (hs2 := []) (C := True) [(.iconst 0, 0, 0), (.istore_n 3, 0, 0)] [] (by decide +kernel) rfl trivial ?_
  exact ls_X1_rebuild l A G cnt hc hc364 hF 0 (by omega) A ⟨fun _ _ _ _ => rfl, fun s p _ h => absurd h (by omega)⟩ _
set_option maxRecDepth 100000 in
set_option maxHeartbeats 4000000 in
theorem s_X1_isOpen (l : Launch) (A : Nat → Nat → Int32) (G : Nat → Nat → Int64) (c : Nat) (x : Int32) (hx : x = nI c) (hc160 : c < 160) : Sem l mX1_isOpen [.ref 22, .int x] 27 (A, G, PF) 27 (pv (bi (¬ A 23 c = 0)) (A, G, PF)) := by
  refine sem_of_go (by decide) rfl (by decide) (by decide) rfl (Nat.le_of_ble_eq_true rfl) ?_
  show Go l ro0 mX1_isOpen 27 (A, G, PF) 0 [.ref 22, .int x] [] 27 (pv (bi (¬ A 23 c = 0)) (A, G, PF))
  refine go_blk (pc2 := 1) (L2 := [.ref 22, .int x]) (st2 := [.int x]) (M2 := (A, G, PF)) (hs2 := []) (C := True) [(.iload_n 1, 0, 0)] [] (by decide +kernel) rfl trivial ?_
  refine go_call (Y2 := mX1_isCell) (n2 := 27) (st := []) [] [.int x] ck_1_30 cwX1_isCell rfl (by decide +kernel) rfl (fun _ => rfl) (fun h => absurd rfl h) (Nat.le_of_ble_eq_true rfl) (Or.inl rfl) (fun _ _ _ h => h) (s_X1_isCell l A G x) (fun v M2 hp1 => ?_)
  obtain ⟨rfl, rfl⟩ := hp1
  rw [bi_t (cell_in (c := c) hx (by omega))]
  show Go l ro0 mX1_isOpen 27 (A, G, PF) 4 [.ref 22, .int x] [.int 1] 27 _
  refine go_ifz (cnd := .eq) (off := 16) 20 (by decide +kernel) (by decide) (fun (h : (1 : Int32) = 0) => absurd h (by decide)) (fun _ => ?_)
  refine go_blk (pc2 := 13) (L2 := [.ref 22, .int x]) (st2 := [.int (A 23 c)]) (M2 := (A, G, PF)) (hs2 := []) (C := (x = nI c ∧ c < 160) ∧ True) [(.aload_n 0, 0, 0), (.getfield 9, 1, 0), (.iload_n 1, 0, 0), (.baload, 0, 0)] [c] (by decide +kernel) rfl ⟨⟨hx, by omega⟩, trivial⟩ ?_
  refine go_ifz (cnd := .eq) (off := 7) 20 (by decide +kernel) (by decide) (fun (c2 : (A 23 c) = 0) => ?_) (fun (c2 : ¬ (A 23 c) = 0) => ?_)
  · skip
    refine go_blk (pc2 := 21) (L2 := [.ref 22, .int x]) (st2 := [.int 0]) (M2 := (A, G, PF)) (hs2 := []) (C := True) [(.iconst 0, 0, 0)] [] (by decide +kernel) rfl trivial ?_
    exact go_retz (by decide +kernel) rfl (Or.inl rfl) (pv0 (fun zz => zz (by assumption)))
  · skip
    refine go_blk (pc2 := 17) (L2 := [.ref 22, .int x]) (st2 := [.int 1]) (M2 := (A, G, PF)) (hs2 := []) (C := True) [(.iconst 1, 0, 0)] [] (by decide +kernel) rfl trivial ?_
    refine go_goto (off := 4) 21 (by decide +kernel) (by decide) ?_
    exact go_retz (by decide +kernel) rfl (Or.inr rfl) (pv1 (by assumption))
set_option maxRecDepth 100000 in
set_option maxHeartbeats 4000000 in
theorem s_X1_neededIn (l : Launch) (A : Nat → Nat → Int32) (G : Nat → Nat → Int64) (c : Nat) (x : Int32) (hx : x = nI c) (hc160 : c < 160) : Sem l mX1_neededIn [.ref 22, .int x] 27 (A, G, PF) 27 (pv (A 24 c) (A, G, PF)) := by
  refine sem_of_go (by decide) rfl (by decide) (by decide) rfl (Nat.le_of_ble_eq_true rfl) ?_
  show Go l ro0 mX1_neededIn 27 (A, G, PF) 0 [.ref 22, .int x] [] 27 (pv (A 24 c) (A, G, PF))
  refine go_blk (pc2 := 1) (L2 := [.ref 22, .int x]) (st2 := [.int x]) (M2 := (A, G, PF)) (hs2 := []) (C := True) [(.iload_n 1, 0, 0)] [] (by decide +kernel) rfl trivial ?_
  refine go_call (Y2 := mX1_isCell) (n2 := 27) (st := []) [] [.int x] ck_1_30 cwX1_isCell rfl (by decide +kernel) rfl (fun _ => rfl) (fun h => absurd rfl h) (Nat.le_of_ble_eq_true rfl) (Or.inl rfl) (fun _ _ _ h => h) (s_X1_isCell l A G x) (fun v M2 hp1 => ?_)
  obtain ⟨rfl, rfl⟩ := hp1
  rw [bi_t (cell_in (c := c) hx (by omega))]
  show Go l ro0 mX1_neededIn 27 (A, G, PF) 4 [.ref 22, .int x] [.int 1] 27 _
  refine go_ifz (cnd := .eq) (off := 12) 16 (by decide +kernel) (by decide) (fun (h : (1 : Int32) = 0) => absurd h (by decide)) (fun _ => ?_)
  refine go_blk (pc2 := 13) (L2 := [.ref 22, .int x]) (st2 := [.int (A 24 c)]) (M2 := (A, G, PF)) (hs2 := []) (C := (x = nI c ∧ c < 160) ∧ True) [(.aload_n 0, 0, 0), (.getfield 15, 1, 1), (.iload_n 1, 0, 0), (.iaload, 0, 0)] [c] (by decide +kernel) rfl ⟨⟨hx, by omega⟩, trivial⟩ ?_
  refine go_goto (off := 4) 17 (by decide +kernel) (by decide) ?_
  exact go_reti (by decide +kernel) rfl (⟨rfl, rfl⟩)
set_option maxRecDepth 100000 in
set_option maxHeartbeats 4000000 in
theorem s_X1_soughtIn (l : Launch) (A : Nat → Nat → Int32) (G : Nat → Nat → Int64) (c : Nat) (x : Int32) (hx : x = nI c) (hc160 : c < 160) : Sem l mX1_soughtIn [.ref 22, .int x] 27 (A, G, PF) 27 (pv (A 25 c) (A, G, PF)) := by
  refine sem_of_go (by decide) rfl (by decide) (by decide) rfl (Nat.le_of_ble_eq_true rfl) ?_
  show Go l ro0 mX1_soughtIn 27 (A, G, PF) 0 [.ref 22, .int x] [] 27 (pv (A 25 c) (A, G, PF))
  refine go_blk (pc2 := 1) (L2 := [.ref 22, .int x]) (st2 := [.int x]) (M2 := (A, G, PF)) (hs2 := []) (C := True) [(.iload_n 1, 0, 0)] [] (by decide +kernel) rfl trivial ?_
  refine go_call (Y2 := mX1_isCell) (n2 := 27) (st := []) [] [.int x] ck_1_30 cwX1_isCell rfl (by decide +kernel) rfl (fun _ => rfl) (fun h => absurd rfl h) (Nat.le_of_ble_eq_true rfl) (Or.inl rfl) (fun _ _ _ h => h) (s_X1_isCell l A G x) (fun v M2 hp1 => ?_)
  obtain ⟨rfl, rfl⟩ := hp1
  rw [bi_t (cell_in (c := c) hx (by omega))]
  show Go l ro0 mX1_soughtIn 27 (A, G, PF) 4 [.ref 22, .int x] [.int 1] 27 _
  refine go_ifz (cnd := .eq) (off := 12) 16 (by decide +kernel) (by decide) (fun (h : (1 : Int32) = 0) => absurd h (by decide)) (fun _ => ?_)
  refine go_blk (pc2 := 13) (L2 := [.ref 22, .int x]) (st2 := [.int (A 25 c)]) (M2 := (A, G, PF)) (hs2 := []) (C := (x = nI c ∧ c < 160) ∧ True) [(.aload_n 0, 0, 0), (.getfield 19, 1, 2), (.iload_n 1, 0, 0), (.iaload, 0, 0)] [c] (by decide +kernel) rfl ⟨⟨hx, by omega⟩, trivial⟩ ?_
  refine go_goto (off := 4) 17 (by decide +kernel) (by decide) ?_
  exact go_reti (by decide +kernel) rfl (⟨rfl, rfl⟩)
set_option maxRecDepth 100000 in
set_option maxHeartbeats 4000000 in
theorem lp_X1_isOpenSomewhere (l : Launch) (A : Nat → Nat → Int32) (G : Nat → Nat → Int64) (s : Nat) (hs : s < 32) : ∀ p, p ≤ 5 → (∀ p2, p2 < p → ¬ ¬ A 23 (s * 5 + p2) = 0) → Go l ro0 mX1_isOpenSomewhere 27 (A, G, PF) 2 [.ref 22, .int (nI s), .int (nI p)] [] 27 (pv (bi (∃ p, p < 5 ∧ ¬ A 23 (s * 5 + p) = 0)) (A, G, PF)) := by
  refine down 5 (fun p hk ih hinv  => ?_)
  refine go_blk (pc2 := 4) (L2 := [.ref 22, .int (nI s), .int (nI p)]) (st2 := [.int 5, .int (nI p)]) (M2 := (A, G, PF)) (hs2 := []) (C := True) [(.iload_n 2, 0, 0), (.iconst 5, 0, 0)] [] (by decide +kernel) rfl trivial ?_
  refine go_cmp (cnd := .ge) (off := 23) 27 (by decide +kernel) (by decide) (fun (c1 : 5 ≤ (nI p)) => ?_) (fun (c1 : ¬ 5 ≤ (nI p)) => ?_)
  · skip
    replace c1 : 5 ≤ p := (nx_le (a := 5) (b := p) rfl rfl (by omega) (by omega)).mp c1
    refine go_blk (pc2 := 28) (L2 := [.ref 22, .int (nI s), .int (nI p)]) (st2 := [.int 0]) (M2 := (A, G, PF)) (hs2 := []) (C := True) [(.iconst 0, 0, 0)] [] (by decide +kernel) rfl trivial ?_
    exact go_retz (by decide +kernel) rfl (Or.inl rfl) (pv0 (fun zz => by obtain ⟨p2, h2, h3⟩ := zz; exact hinv p2 (by omega) h3))
  · skip
    replace c1 : ¬ 5 ≤ p := fun zz => c1 ((nx_le (a := 5) (b := p) rfl rfl (by omega) (by omega)).mpr zz)
    refine go_blk (pc2 := 10) (L2 := [.ref 22, .int (nI s), .int (nI p)]) (st2 := [.int (nI p), .int (nI s), .ref 22]) (M2 := (A, G, PF)) (hs2 := []) (C := True) [(.aload_n 0, 0, 0), (.iload_n 1, 0, 0), (.iload_n 2, 0, 0)] [] (by decide +kernel) rfl trivial ?_
    refine go_call (Y2 := mX1_cellOf) (n2 := 27) (st := [.ref 22]) [] [.int (nI s), .int (nI p)] ck_1_26 cwX1_cellOf rfl (by decide +kernel) rfl (fun _ => rfl) (fun h => absurd rfl h) (Nat.le_of_ble_eq_true rfl) (Or.inl rfl) (fun _ _ _ h => h) (s_X1_cellOf l A G (nI s) (nI p)) (fun v M2 hp2 => ?_)
    obtain ⟨rfl, rfl⟩ := hp2
    show Go l ro0 mX1_isOpenSomewhere 27 (A, G, PF) 13 [.ref 22, .int (nI s), .int (nI p)] [.int ((nI s) * 5 + (nI p)), .ref 22] 27 _
    refine go_call (Y2 := mX1_isOpen) (n2 := 27) (st := []) [.ref 22] [.int ((nI s) * 5 + (nI p))] ck_1_58 cwX1_isOpen rfl (by decide +kernel) rfl (fun h => absurd h (by decide)) (fun _ => ⟨22, rfl, by decide, rfl⟩) (Nat.le_of_ble_eq_true rfl) (Or.inl rfl) (fun _ _ _ h => h) (s_X1_isOpen l A G (s * 5 + p) ((nI s) * 5 + (nI p)) (by first | rfl | (simp only [nI, Int32.ofNat_add, Int32.ofNat_mul]; done) | (simp only [nI, Int32.ofNat_add, Int32.ofNat_mul]; rfl)) (by omega)) (fun v M2 hp3 => ?_)
    obtain ⟨rfl, rfl⟩ := hp3
    rcases Classical.em (¬ A 23 (s * 5 + p) = 0) with hb4 | hb4
    · rw [bi_t hb4]
      show Go l ro0 mX1_isOpenSomewhere 27 (A, G, PF) 16 [.ref 22, .int (nI s), .int (nI p)] [.int 1] 27 _
      refine go_ifz (cnd := .eq) (off := 5) 21 (by decide +kernel) (by decide) (fun (h : (1 : Int32) = 0) => absurd h (by decide)) (fun _ => ?_)
      refine go_blk (pc2 := 20) (L2 := [.ref 22, .int (nI s), .int (nI p)]) (st2 := [.int 1]) (M2 := (A, G, PF)) (hs2 := []) (C := True) [(.iconst 1, 0, 0)] [] (by decide +kernel) rfl trivial ?_
      exact go_retz (by decide +kernel) rfl (Or.inr rfl) (pv1 ⟨p, by omega, by assumption⟩)
    · rw [bi_f hb4]
      show Go l ro0 mX1_isOpenSomewhere 27 (A, G, PF) 16 [.ref 22, .int (nI s), .int (nI p)] [.int 0] 27 _
      refine go_ifz (cnd := .eq) (off := 5) 21 (by decide +kernel) (by decide) (fun _ => ?_) (fun (h : ¬ (0 : Int32) = 0) => absurd h (by decide))
      refine go_blk (pc2 := 24) (L2 := [.ref 22, .int (nI s), .int ((nI p) + 1)]) (st2 := []) (M2 := (A, G, PF)) (hs2 := []) (C := True) [(.iinc 2 1, 0, 0)] [] (by decide +kernel) rfl trivial ?_
      refine go_goto (off := -22) 2 (by decide +kernel) (by decide) ?_
      exact go_as (ih (by omega) (fun p2 h2 => by by_cases e : p2 = p; (subst e; assumption); exact hinv p2 (by omega)) ) rfl (by simp only [nI_1]) rfl
set_option maxRecDepth 100000 in
set_option maxHeartbeats 4000000 in
theorem s_X1_isOpenSomewhere (l : Launch) (A : Nat → Nat → Int32) (G : Nat → Nat → Int64) (s : Nat) (hs : s < 32) : Sem l mX1_isOpenSomewhere [.ref 22, .int (nI s)] 27 (A, G, PF) 27 (pv (bi (∃ p, p < 5 ∧ ¬ A 23 (s * 5 + p) = 0)) (A, G, PF)) := by
  refine sem_of_go (by decide) rfl (by decide) (by decide) rfl (Nat.le_of_ble_eq_true rfl) ?_
  show Go l ro0 mX1_isOpenSomewhere 27 (A, G, PF) 0 [.ref 22, .int (nI s), .null] [] 27 (pv (bi (∃ p, p < 5 ∧ ¬ A 23 (s * 5 + p) = 0)) (A, G, PF))
  refine go_blk (pc2 := 2) (L2 := [.ref 22, .int (nI s), .int 0]) (st2 := []) (M2 := (A, G, PF)) (hs2 := []) (C := True) [(.iconst 0, 0, 0), (.istore_n 2, 0, 0)] [] (by decide +kernel) rfl trivial ?_
  exact lp_X1_isOpenSomewhere l A G s hs 0 (by omega) (fun p2 h2 => absurd h2 (by omega))
def lit (A : Nat → Nat → Int32) (i : Nat) : Nat := (A 10 i).toNatClampNeg
def LitOk (A : Nat → Nat → Int32) : Prop := ∀ i, i < 24 → A 10 i = -1 ∨ (lit A i < 10 ∧ A 10 i = nI (lit A i))
def LitH (A : Nat → Nat → Int32) (s i : Nat) : Prop := ¬ A 10 i = -1 ∧ HL s (lit A i)
def ClS (A : Nat → Nat → Int32) (s st : Nat) : Prop := ∃ i, st ≤ i ∧ i < st + 3 ∧ LitH A s i
def SatC (A : Nat → Nat → Int32) (s ncl : Nat) : Prop := ∀ n, n < ncl → ClS A s (n * 3)
set_option maxRecDepth 100000 in
set_option maxHeartbeats 4000000 in
theorem lp_X2_isSatisfiedBy (l : Launch) (A : Nat → Nat → Int32) (G : Nat → Nat → Int64) (hL : LitOk A) (s : Nat) (hs : s < 32) (st : Nat) (hst : st ≤ 21) (x : Int32) (hx : x = nI st) : ∀ i, i ≤ st + 3 → (st ≤ i ∧ ∀ i2, st ≤ i2 → i2 < i → ¬ LitH A s i2) → Go l ro0 mX2_isSatisfiedBy 27 (A, G, PF) 19 [.ref 9, .int (nI s), .int x, .int (nI i)] [] 27 (pv (bi (ClS A s st)) (A, G, PF)) := by
  refine down (st + 3) (fun i hk ih hinv  => ?_)
  refine go_blk (pc2 := 23) (L2 := [.ref 9, .int (nI s), .int x, .int (nI i)]) (st2 := [.int (x + 3), .int (nI i)]) (M2 := (A, G, PF)) (hs2 := []) (C := True) [(.iload_n 3, 0, 0), (.iload_n 2, 0, 0), (.iconst 3, 0, 0), (.iadd, 0, 0)] [] (by decide +kernel) rfl trivial ?_
  refine go_cmp (cnd := .ge) (off := 34) 57 (by decide +kernel) (by decide) (fun (c1 : (x + 3) ≤ (nI i)) => ?_) (fun (c1 : ¬ (x + 3) ≤ (nI i)) => ?_)
  · skip
    replace c1 : (st + 3) ≤ i := (nx_le (a := (st + 3)) (b := i) (by first | rfl | (simp only [hx, nI, Int32.ofNat_add, Int32.ofNat_mul]; done) | (simp only [hx, nI, Int32.ofNat_add, Int32.ofNat_mul]; rfl)) rfl (by omega) (by omega)).mp c1
    refine go_blk (pc2 := 58) (L2 := [.ref 9, .int (nI s), .int x, .int (nI i)]) (st2 := [.int 0]) (M2 := (A, G, PF)) (hs2 := []) (C := True) [(.iconst 0, 0, 0)] [] (by decide +kernel) rfl trivial ?_
    exact go_retz (by decide +kernel) rfl (Or.inl rfl) (pv0 (fun zz => by obtain ⟨i2, h1, h2, h3⟩ := zz; exact hinv.2 i2 h1 (by omega) h3))
  · skip
    replace c1 : ¬ (st + 3) ≤ i := fun zz => c1 ((nx_le (a := (st + 3)) (b := i) (by first | rfl | (simp only [hx, nI, Int32.ofNat_add, Int32.ofNat_mul]; done) | (simp only [hx, nI, Int32.ofNat_add, Int32.ofNat_mul]; rfl)) rfl (by omega) (by omega)).mpr zz)
    have hlo := hL i (by omega)
    refine go_blk (pc2 := 33) (L2 := [.ref 9, .int (nI s), .int x, .int (nI i)]) (st2 := [.int (-1), .int (A 10 i)]) (M2 := (A, G, PF)) (hs2 := []) (C := ((nI i) = nI i ∧ i < 24) ∧ True) [(.aload_n 0, 0, 0), (.getfield 9, 2, 0), (.iload_n 3, 0, 0), (.iaload, 0, 0), (.iconst (-1), 0, 0)] [i] (by decide +kernel) rfl ⟨⟨rfl, by omega⟩, trivial⟩ ?_
    refine go_cmp (cnd := .eq) (off := 18) 51 (by decide +kernel) (by decide) (fun (c2 : (A 10 i) = (-1)) => ?_) (fun (c2 : ¬ (A 10 i) = (-1)) => ?_)
    · skip
      refine go_blk (pc2 := 54) (L2 := [.ref 9, .int (nI s), .int x, .int ((nI i) + 1)]) (st2 := []) (M2 := (A, G, PF)) (hs2 := []) (C := True) [(.iinc 3 1, 0, 0)] [] (by decide +kernel) rfl trivial ?_
      refine go_goto (off := -35) 19 (by decide +kernel) (by decide) ?_
      exact go_as (ih (by omega) (⟨by omega, fun i2 h1 h2 => by by_cases e : i2 = i; (subst e; rintro ⟨z1, z2⟩; contradiction); exact hinv.2 i2 h1 (by omega)⟩) ) rfl (by simp only [nI_1]) rfl
    · skip
      refine go_blk (pc2 := 43) (L2 := [.ref 9, .int (nI s), .int x, .int (nI i)]) (st2 := [.int (A 10 i), .int (nI s)]) (M2 := (A, G, PF)) (hs2 := []) (C := ((nI i) = nI i ∧ i < 24) ∧ True) [(.iload_n 1, 0, 0), (.aload_n 0, 0, 0), (.getfield 9, 2, 0), (.iload_n 3, 0, 0), (.iaload, 0, 0)] [i] (by decide +kernel) rfl ⟨⟨rfl, by omega⟩, trivial⟩ ?_
      refine go_call (Y2 := mX5_holdsIn) (n2 := 27) (st := []) [] [.int (nI s), .int (A 10 i)] ck_2_29 cwX5_holdsIn rfl (by decide +kernel) rfl (fun _ => rfl) (fun h => absurd rfl h) (Nat.le_of_ble_eq_true rfl) (Or.inl rfl) (fun _ _ _ h => h) (s_X5_holdsIn l A G s (lit A i) (nI s) (A 10 i) (by omega) (hlo.resolve_left (by assumption)).1 rfl (hlo.resolve_left (by assumption)).2) (fun v M2 hp3 => ?_)
      obtain ⟨rfl, rfl⟩ := hp3
      rcases Classical.em (HL s (lit A i)) with hb4 | hb4
      · rw [bi_t hb4]
        show Go l ro0 mX2_isSatisfiedBy 27 (A, G, PF) 46 [.ref 9, .int (nI s), .int x, .int (nI i)] [.int 1] 27 _
        refine go_ifz (cnd := .eq) (off := 5) 51 (by decide +kernel) (by decide) (fun (h : (1 : Int32) = 0) => absurd h (by decide)) (fun _ => ?_)
        refine go_blk (pc2 := 50) (L2 := [.ref 9, .int (nI s), .int x, .int (nI i)]) (st2 := [.int 1]) (M2 := (A, G, PF)) (hs2 := []) (C := True) [(.iconst 1, 0, 0)] [] (by decide +kernel) rfl trivial ?_
        exact go_retz (by decide +kernel) rfl (Or.inr rfl) (pv1 ⟨i, by omega, by omega, by assumption, by assumption⟩)
      · rw [bi_f hb4]
        show Go l ro0 mX2_isSatisfiedBy 27 (A, G, PF) 46 [.ref 9, .int (nI s), .int x, .int (nI i)] [.int 0] 27 _
        refine go_ifz (cnd := .eq) (off := 5) 51 (by decide +kernel) (by decide) (fun _ => ?_) (fun (h : ¬ (0 : Int32) = 0) => absurd h (by decide))
        refine go_blk (pc2 := 54) (L2 := [.ref 9, .int (nI s), .int x, .int ((nI i) + 1)]) (st2 := []) (M2 := (A, G, PF)) (hs2 := []) (C := True) [(.iinc 3 1, 0, 0)] [] (by decide +kernel) rfl trivial ?_
        refine go_goto (off := -35) 19 (by decide +kernel) (by decide) ?_
        exact go_as (ih (by omega) (⟨by omega, fun i2 h1 h2 => by by_cases e : i2 = i; (subst e; rintro ⟨z1, z2⟩; contradiction); exact hinv.2 i2 h1 (by omega)⟩) ) rfl (by simp only [nI_1]) rfl
set_option maxRecDepth 100000 in
set_option maxHeartbeats 4000000 in
theorem s_X2_isSatisfiedBy (l : Launch) (A : Nat → Nat → Int32) (G : Nat → Nat → Int64) (hL : LitOk A) (s : Nat) (hs : s < 32) (st : Nat) (hst : st ≤ 21) (x : Int32) (hx : x = nI st) : Sem l mX2_isSatisfiedBy [.ref 9, .int (nI s), .int x] 27 (A, G, PF) 27 (pv (bi (ClS A s st)) (A, G, PF)) := by
  refine sem_of_go (by decide) rfl (by decide) (by decide) rfl (Nat.le_of_ble_eq_true rfl) ?_
  show Go l ro0 mX2_isSatisfiedBy 27 (A, G, PF) 0 [.ref 9, .int (nI s), .int x, .null] [] 27 (pv (bi (ClS A s st)) (A, G, PF))
  refine go_blk (pc2 := 1) (L2 := [.ref 9, .int (nI s), .int x, .null]) (st2 := [.int x]) (M2 := (A, G, PF)) (hs2 := []) (C := True) [(.iload_n 2, 0, 0)] [] (by decide +kernel) rfl trivial ?_
  refine go_ifz (cnd := .lt) (off := 14) 15 (by decide +kernel) (by decide) (fun (h : x < 0) => absurd h (fun zz => absurd ((nx_lt (a := st) (b := 0) hx rfl (by omega) (by omega)).mp zz) (by omega))) (fun _ => ?_)
  refine go_blk (pc2 := 12) (L2 := [.ref 9, .int (nI s), .int x, .null]) (st2 := [.int ((nI 24) - 3), .int x]) (M2 := (A, G, PF)) (hs2 := []) (C := True) [(.iload_n 2, 0, 0), (.aload_n 0, 0, 0), (.getfield 9, 2, 0), (.arraylength, 0, 0), (.iconst 3, 0, 0), (.isub, 0, 0)] [] (by decide +kernel) rfl trivial ?_
  refine go_cmp (cnd := .le) (off := 5) 17 (by decide +kernel) (by decide) (fun _ => ?_) (fun (h : ¬ x ≤ ((nI 24) - 3)) => absurd h (by rw [hx]; exact fun zz => zz ((nI_leI (a := st) (b := 21) (by omega) (by decide)).mpr hst)))
  refine go_blk (pc2 := 19) (L2 := [.ref 9, .int (nI s), .int x, .int x]) (st2 := []) (M2 := (A, G, PF)) (hs2 := []) (C := True) [(.iload_n 2, 0, 0), (.istore_n 3, 0, 0)] [] (by decide +kernel) rfl trivial ?_
  exact go_as (lp_X2_isSatisfiedBy l A G hL s hs st hst x hx st (by omega) ⟨by omega, fun i2 h1 h2 => absurd h2 (by omega)⟩) rfl (by rw [hx]) rfl
set_option maxRecDepth 100000 in
set_option maxHeartbeats 4000000 in
theorem lp_X2_areSatisfiedBy (l : Launch) (A : Nat → Nat → Int32) (G : Nat → Nat → Int64) (hL : LitOk A) (ncl : Nat) (hn : A 9 2 = nI ncl) (hn8 : ncl ≤ 8) (s : Nat) (hs : s < 32) : ∀ n, n ≤ ncl → (∀ n2, n2 < n → ClS A s (n2 * 3)) → Go l ro0 mX2_areSatisfiedBy 27 (A, G, PF) 2 [.ref 9, .int (nI s), .int (nI n)] [] 27 (pv (bi (SatC A s ncl)) (A, G, PF)) := by
  refine down ncl (fun n hk ih hinv  => ?_)
  refine go_blk (pc2 := 7) (L2 := [.ref 9, .int (nI s), .int (nI n)]) (st2 := [.int (A 9 2), .int (nI n)]) (M2 := (A, G, PF)) (hs2 := []) (C := True) [(.iload_n 2, 0, 0), (.aload_n 0, 0, 0), (.getfield 18, 2, 2)] [] (by decide +kernel) rfl trivial ?_
  refine go_cmp (cnd := .ge) (off := 28) 35 (by decide +kernel) (by decide) (fun (c1 : (A 9 2) ≤ (nI n)) => ?_) (fun (c1 : ¬ (A 9 2) ≤ (nI n)) => ?_)
  · skip
    replace c1 : ncl ≤ n := (nx_le (a := ncl) (b := n) hn rfl (by omega) (by omega)).mp c1
    refine go_blk (pc2 := 36) (L2 := [.ref 9, .int (nI s), .int (nI n)]) (st2 := [.int 1]) (M2 := (A, G, PF)) (hs2 := []) (C := True) [(.iconst 1, 0, 0)] [] (by decide +kernel) rfl trivial ?_
    exact go_retz (by decide +kernel) rfl (Or.inr rfl) (pv1 (fun n2 h2 => hinv n2 (by omega)))
  · skip
    replace c1 : ¬ ncl ≤ n := fun zz => c1 ((nx_le (a := ncl) (b := n) hn rfl (by omega) (by omega)).mpr zz)
    refine go_blk (pc2 := 13) (L2 := [.ref 9, .int (nI s), .int (nI n)]) (st2 := [.int 8, .int (nI n)]) (M2 := (A, G, PF)) (hs2 := []) (C := True) [(.iload_n 2, 0, 0), (.bipush 8, 0, 0)] [] (by decide +kernel) rfl trivial ?_
    refine go_cmp (cnd := .ge) (off := 22) 35 (by decide +kernel) (by decide) (fun (h : 8 ≤ (nI n)) => absurd h (fun zz => absurd ((nx_le (a := 8) (b := n) rfl rfl (by omega) (by omega)).mp zz) (by omega))) (fun _ => ?_)
    refine go_blk (pc2 := 21) (L2 := [.ref 9, .int (nI s), .int (nI n)]) (st2 := [.int ((nI n) * 3), .int (nI s), .ref 9]) (M2 := (A, G, PF)) (hs2 := []) (C := True) [(.aload_n 0, 0, 0), (.iload_n 1, 0, 0), (.iload_n 2, 0, 0), (.iconst 3, 0, 0), (.imul, 0, 0)] [] (by decide +kernel) rfl trivial ?_
    refine go_call (Y2 := mX2_isSatisfiedBy) (n2 := 27) (st := []) [.ref 9] [.int (nI s), .int ((nI n) * 3)] ck_2_25 cwX2_isSatisfiedBy rfl (by decide +kernel) rfl (fun h => absurd h (by decide)) (fun _ => ⟨9, rfl, by decide, rfl⟩) (Nat.le_of_ble_eq_true rfl) (Or.inl rfl) (fun _ _ _ h => h) (s_X2_isSatisfiedBy l A G hL s (by omega) (n * 3) (by omega) ((nI n) * 3) (by first | rfl | (simp only [nI, Int32.ofNat_add, Int32.ofNat_mul]; done) | (simp only [nI, Int32.ofNat_add, Int32.ofNat_mul]; rfl))) (fun v M2 hp2 => ?_)
    obtain ⟨rfl, rfl⟩ := hp2
    rcases Classical.em (ClS A s (n * 3)) with hb3 | hb3
    · rw [bi_t hb3]
      show Go l ro0 mX2_areSatisfiedBy 27 (A, G, PF) 24 [.ref 9, .int (nI s), .int (nI n)] [.int 1] 27 _
      refine go_ifz (cnd := .ne) (off := 5) 29 (by decide +kernel) (by decide) (fun _ => ?_) (fun (h : (1 : Int32) = 0) => absurd h (by decide))
      refine go_blk (pc2 := 32) (L2 := [.ref 9, .int (nI s), .int ((nI n) + 1)]) (st2 := []) (M2 := (A, G, PF)) (hs2 := []) (C := True) [(.iinc 2 1, 0, 0)] [] (by decide +kernel) rfl trivial ?_
      refine go_goto (off := -30) 2 (by decide +kernel) (by decide) ?_
      exact go_as (ih (by omega) (fun n2 h2 => by by_cases e : n2 = n; (subst e; assumption); exact hinv n2 (by omega)) ) rfl (by simp only [nI_1]) rfl
    · rw [bi_f hb3]
      show Go l ro0 mX2_areSatisfiedBy 27 (A, G, PF) 24 [.ref 9, .int (nI s), .int (nI n)] [.int 0] 27 _
      refine go_ifz (cnd := .ne) (off := 5) 29 (by decide +kernel) (by decide) (fun (h : ¬ (0 : Int32) = 0) => absurd h (by decide)) (fun _ => ?_)
      refine go_blk (pc2 := 28) (L2 := [.ref 9, .int (nI s), .int (nI n)]) (st2 := [.int 0]) (M2 := (A, G, PF)) (hs2 := []) (C := True) [(.iconst 0, 0, 0)] [] (by decide +kernel) rfl trivial ?_
      exact go_retz (by decide +kernel) rfl (Or.inl rfl) (pv0 (fun zz => absurd (zz n (by omega)) (by assumption)))
set_option maxRecDepth 100000 in
set_option maxHeartbeats 4000000 in
theorem s_X2_areSatisfiedBy (l : Launch) (A : Nat → Nat → Int32) (G : Nat → Nat → Int64) (hL : LitOk A) (ncl : Nat) (hn : A 9 2 = nI ncl) (hn8 : ncl ≤ 8) (s : Nat) (hs : s < 32) : Sem l mX2_areSatisfiedBy [.ref 9, .int (nI s)] 27 (A, G, PF) 27 (pv (bi (SatC A s ncl)) (A, G, PF)) := by
  refine sem_of_go (by decide) rfl (by decide) (by decide) rfl (Nat.le_of_ble_eq_true rfl) ?_
  show Go l ro0 mX2_areSatisfiedBy 27 (A, G, PF) 0 [.ref 9, .int (nI s), .null] [] 27 (pv (bi (SatC A s ncl)) (A, G, PF))
  refine go_blk (pc2 := 2) (L2 := [.ref 9, .int (nI s), .int 0]) (st2 := []) (M2 := (A, G, PF)) (hs2 := []) (C := True) [(.iconst 0, 0, 0), (.istore_n 2, 0, 0)] [] (by decide +kernel) rfl trivial ?_
  exact lp_X2_areSatisfiedBy l A G hL ncl hn hn8 s hs 0 (by omega) (fun n2 h2 => absurd h2 (by omega))
set_option maxRecDepth 100000 in
set_option maxHeartbeats 4000000 in
theorem s_X2_size (l : Launch) (A : Nat → Nat → Int32) (G : Nat → Nat → Int64) : Sem l mX2_size [.ref 9] 27 (A, G, PF) 27 (pv (A 9 2) (A, G, PF)) := by
  refine sem_of_go (by decide) rfl (by decide) (by decide) rfl (Nat.le_of_ble_eq_true rfl) ?_
  show Go l ro0 mX2_size 27 (A, G, PF) 0 [.ref 9] [] 27 (pv (A 9 2) (A, G, PF))
  refine go_blk (pc2 := 4) (L2 := [.ref 9]) (st2 := [.int (A 9 2)]) (M2 := (A, G, PF)) (hs2 := []) (C := True) [(.aload_n 0, 0, 0), (.getfield 18, 2, 2)] [] (by decide +kernel) rfl trivial ?_
  exact go_reti (by decide +kernel) rfl (⟨rfl, rfl⟩)
set_option maxRecDepth 100000 in
set_option maxHeartbeats 4000000 in
theorem s_X2_level (l : Launch) (A : Nat → Nat → Int32) (G : Nat → Nat → Int64) : Sem l mX2_level [.ref 9] 27 (A, G, PF) 27 (pv (A 9 3) (A, G, PF)) := by
  refine sem_of_go (by decide) rfl (by decide) (by decide) rfl (Nat.le_of_ble_eq_true rfl) ?_
  show Go l ro0 mX2_level 27 (A, G, PF) 0 [.ref 9] [] 27 (pv (A 9 3) (A, G, PF))
  refine go_blk (pc2 := 4) (L2 := [.ref 9]) (st2 := [.int (A 9 3)]) (M2 := (A, G, PF)) (hs2 := []) (C := True) [(.aload_n 0, 0, 0), (.getfield 22, 2, 3)] [] (by decide +kernel) rfl trivial ?_
  exact go_reti (by decide +kernel) rfl (⟨rfl, rfl⟩)
set_option maxRecDepth 100000 in
set_option maxHeartbeats 4000000 in
theorem s_X2_add (l : Launch) (A : Nat → Nat → Int32) (G : Nat → Nat → Int64) (ncl : Nat) (hn : A 9 2 = nI ncl) (hn8 : ncl ≤ 8) (p q r1 : Int32) : Sem l mX2_add [.ref 9, .int p, .int q, .int r1] 27 (A, G, PF) 27 (fun r M2 => (ncl < 8 ∧ r = some (.int 1) ∧ M2 = ((u2 (u2 (u2 (u2 A 10 (ncl * 3) p) 10 (ncl * 3 + 1) q) 10 (ncl * 3 + 2) r1) 9 2 (A 9 2 + 1)), G, PF)) ∨ (ncl = 8 ∧ r = some (.int 0) ∧ M2 = (A, G, PF))) := by
  refine sem_of_go (by decide) rfl (by decide) (by decide) rfl (Nat.le_of_ble_eq_true rfl) ?_
  show Go l ro0 mX2_add 27 (A, G, PF) 0 [.ref 9, .int p, .int q, .int r1, .null] [] 27 (fun r M2 => (ncl < 8 ∧ r = some (.int 1) ∧ M2 = ((u2 (u2 (u2 (u2 A 10 (ncl * 3) p) 10 (ncl * 3 + 1) q) 10 (ncl * 3 + 2) r1) 9 2 (A 9 2 + 1)), G, PF)) ∨ (ncl = 8 ∧ r = some (.int 0) ∧ M2 = (A, G, PF)))
  refine go_blk (pc2 := 4) (L2 := [.ref 9, .int p, .int q, .int r1, .null]) (st2 := [.int (A 9 2)]) (M2 := (A, G, PF)) (hs2 := []) (C := True) [(.aload_n 0, 0, 0), (.getfield 18, 2, 2)] [] (by decide +kernel) rfl trivial ?_
  refine go_ifz (cnd := .lt) (off := 12) 16 (by decide +kernel) (by decide) (fun (h : (A 9 2) < 0) => absurd h (fun zz => absurd ((nx_lt (a := ncl) (b := 0) hn rfl (by omega) (by omega)).mp zz) (by omega))) (fun _ => ?_)
  refine go_blk (pc2 := 13) (L2 := [.ref 9, .int p, .int q, .int r1, .null]) (st2 := [.int 8, .int (A 9 2)]) (M2 := (A, G, PF)) (hs2 := []) (C := True) [(.aload_n 0, 0, 0), (.getfield 18, 2, 2), (.bipush 8, 0, 0)] [] (by decide +kernel) rfl trivial ?_
  refine go_cmp (cnd := .lt) (off := 5) 18 (by decide +kernel) (by decide) (fun (c1 : (A 9 2) < 8) => ?_) (fun (c1 : ¬ (A 9 2) < 8) => ?_)
  · skip
    replace c1 : ncl < 8 := (nx_lt (a := ncl) (b := 8) hn rfl (by omega) (by omega)).mp c1
    refine go_blk (pc2 := 65) (L2 := [.ref 9, .int p, .int q, .int r1, .int ((A 9 2) * 3)]) (st2 := [.int 1]) (M2 := ((u2 (u2 (u2 (u2 A 10 (ncl * 3) p) 10 ((ncl * 3) + 1) q) 10 ((ncl * 3) + 2) r1) 9 2 ((A 9 2) + 1)), G, PF)) (hs2 := []) (C := (((A 9 2) * 3) = nI (ncl * 3) ∧ (ncl * 3) < 24) ∧ ((((A 9 2) * 3) + 1) = nI ((ncl * 3) + 1) ∧ ((ncl * 3) + 1) < 24) ∧ ((((A 9 2) * 3) + 2) = nI ((ncl * 3) + 2) ∧ ((ncl * 3) + 2) < 24) ∧ True) [(.aload_n 0, 0, 0), (.getfield 18, 2, 2), (.iconst 3, 0, 0), (.imul, 0, 0), (.istore 4, 0, 0), (.aload_n 0, 0, 0), (.getfield 9, 2, 0), (.iload 4, 0, 0), (.iload_n 1, 0, 0), (.iastore, 0, 0), (.aload_n 0, 0, 0), (.getfield 9, 2, 0), (.iload 4, 0, 0), (.iconst 1, 0, 0), (.iadd, 0, 0), (.iload_n 2, 0, 0), (.iastore, 0, 0), (.aload_n 0, 0, 0), (.getfield 9, 2, 0), (.iload 4, 0, 0), (.iconst 2, 0, 0), (.iadd, 0, 0), (.iload_n 3, 0, 0), (.iastore, 0, 0), (.aload_n 0, 0, 0), (.dup, 0, 0), (.getfield 18, 2, 2), (.iconst 1, 0, 0), (.iadd, 0, 0), (.putfield 18, 2, 2), (.iconst 1, 0, 0)] [(ncl * 3), ((ncl * 3) + 1), ((ncl * 3) + 2)] (by decide +kernel) rfl ⟨⟨(by first | rfl | (simp only [hn, nI, Int32.ofNat_add, Int32.ofNat_mul]; done) | (simp only [hn, nI, Int32.ofNat_add, Int32.ofNat_mul]; rfl)), by omega⟩, ⟨(by first | rfl | (simp only [hn, nI, Int32.ofNat_add, Int32.ofNat_mul]; done) | (simp only [hn, nI, Int32.ofNat_add, Int32.ofNat_mul]; rfl)), by omega⟩, ⟨(by first | rfl | (simp only [hn, nI, Int32.ofNat_add, Int32.ofNat_mul]; done) | (simp only [hn, nI, Int32.ofNat_add, Int32.ofNat_mul]; rfl)), by omega⟩, trivial⟩ ?_
    exact go_retz (by decide +kernel) rfl (Or.inr rfl) (Or.inl ⟨by omega, rfl, rfl⟩)
  · skip
    replace c1 : ¬ ncl < 8 := fun zz => c1 ((nx_lt (a := ncl) (b := 8) hn rfl (by omega) (by omega)).mpr zz)
    refine go_blk (pc2 := 17) (L2 := [.ref 9, .int p, .int q, .int r1, .null]) (st2 := [.int 0]) (M2 := (A, G, PF)) (hs2 := []) (C := True) [(.iconst 0, 0, 0)] [] (by decide +kernel) rfl trivial ?_
    exact go_retz (by decide +kernel) rfl (Or.inl rfl) (Or.inr ⟨by omega, rfl, rfl⟩)
set_option maxRecDepth 100000 in
set_option maxHeartbeats 4000000 in
theorem s_X2_raise (l : Launch) (A : Nat → Nat → Int32) (G : Nat → Nat → Int64) (lv : Nat) (hlv : A 9 3 = nI lv) (hlv4 : lv ≤ 4) : Sem l mX2_raise [.ref 9] 27 (A, G, PF) 27 (fun r M2 => (lv < 4 ∧ r = some (.int 1) ∧ M2 = ((u2 (u2 A 11 lv (A 9 2)) 9 3 (A 9 3 + 1)), G, PF)) ∨ (lv = 4 ∧ r = some (.int 0) ∧ M2 = (A, G, PF))) := by
  refine sem_of_go (by decide) rfl (by decide) (by decide) rfl (Nat.le_of_ble_eq_true rfl) ?_
  show Go l ro0 mX2_raise 27 (A, G, PF) 0 [.ref 9] [] 27 (fun r M2 => (lv < 4 ∧ r = some (.int 1) ∧ M2 = ((u2 (u2 A 11 lv (A 9 2)) 9 3 (A 9 3 + 1)), G, PF)) ∨ (lv = 4 ∧ r = some (.int 0) ∧ M2 = (A, G, PF)))
  refine go_blk (pc2 := 4) (L2 := [.ref 9]) (st2 := [.int (A 9 3)]) (M2 := (A, G, PF)) (hs2 := []) (C := True) [(.aload_n 0, 0, 0), (.getfield 22, 2, 3)] [] (by decide +kernel) rfl trivial ?_
  refine go_ifz (cnd := .lt) (off := 11) 15 (by decide +kernel) (by decide) (fun (h : (A 9 3) < 0) => absurd h (fun zz => absurd ((nx_lt (a := lv) (b := 0) hlv rfl (by omega) (by omega)).mp zz) (by omega))) (fun _ => ?_)
  refine go_blk (pc2 := 12) (L2 := [.ref 9]) (st2 := [.int 4, .int (A 9 3)]) (M2 := (A, G, PF)) (hs2 := []) (C := True) [(.aload_n 0, 0, 0), (.getfield 22, 2, 3), (.iconst 4, 0, 0)] [] (by decide +kernel) rfl trivial ?_
  refine go_cmp (cnd := .lt) (off := 5) 17 (by decide +kernel) (by decide) (fun (c1 : (A 9 3) < 4) => ?_) (fun (c1 : ¬ (A 9 3) < 4) => ?_)
  · skip
    replace c1 : lv < 4 := (nx_lt (a := lv) (b := 4) hlv rfl (by omega) (by omega)).mp c1
    refine go_blk (pc2 := 41) (L2 := [.ref 9]) (st2 := [.int 1]) (M2 := ((u2 (u2 A 11 lv (A 9 2)) 9 3 ((A 9 3) + 1)), G, PF)) (hs2 := []) (C := ((A 9 3) = nI lv ∧ lv < 4) ∧ True) [(.aload_n 0, 0, 0), (.getfield 15, 2, 1), (.aload_n 0, 0, 0), (.getfield 22, 2, 3), (.aload_n 0, 0, 0), (.getfield 18, 2, 2), (.iastore, 0, 0), (.aload_n 0, 0, 0), (.dup, 0, 0), (.getfield 22, 2, 3), (.iconst 1, 0, 0), (.iadd, 0, 0), (.putfield 22, 2, 3), (.iconst 1, 0, 0)] [lv] (by decide +kernel) rfl ⟨⟨hlv, by omega⟩, trivial⟩ ?_
    exact go_retz (by decide +kernel) rfl (Or.inr rfl) (Or.inl ⟨by omega, rfl, rfl⟩)
  · skip
    replace c1 : ¬ lv < 4 := fun zz => c1 ((nx_lt (a := lv) (b := 4) hlv rfl (by omega) (by omega)).mpr zz)
    refine go_blk (pc2 := 16) (L2 := [.ref 9]) (st2 := [.int 0]) (M2 := (A, G, PF)) (hs2 := []) (C := True) [(.iconst 0, 0, 0)] [] (by decide +kernel) rfl trivial ?_
    exact go_retz (by decide +kernel) rfl (Or.inl rfl) (Or.inr ⟨by omega, rfl, rfl⟩)
set_option maxRecDepth 100000 in
set_option maxHeartbeats 4000000 in
theorem s_X2_lower (l : Launch) (A : Nat → Nat → Int32) (G : Nat → Nat → Int64) (lv : Nat) (hlv : A 9 3 = nI lv) (hlv4 : lv ≤ 4) : Sem l mX2_lower [.ref 9] 27 (A, G, PF) 27 (fun r M2 => (0 < lv ∧ r = some (.int 1) ∧ M2 = ((u2 (u2 A 9 3 ((A 9 3) - 1)) 9 2 (A 11 (lv - 1))), G, PF)) ∨ (lv = 0 ∧ r = some (.int 0) ∧ M2 = (A, G, PF))) := by
  refine sem_of_go (by decide) rfl (by decide) (by decide) rfl (Nat.le_of_ble_eq_true rfl) ?_
  show Go l ro0 mX2_lower 27 (A, G, PF) 0 [.ref 9] [] 27 (fun r M2 => (0 < lv ∧ r = some (.int 1) ∧ M2 = ((u2 (u2 A 9 3 ((A 9 3) - 1)) 9 2 (A 11 (lv - 1))), G, PF)) ∨ (lv = 0 ∧ r = some (.int 0) ∧ M2 = (A, G, PF)))
  have hlm : 0 < lv → A 9 3 - 1 = nI (lv - 1) := fun zz => by rw [hlv]; exact pk_sub zz
  refine go_blk (pc2 := 4) (L2 := [.ref 9]) (st2 := [.int (A 9 3)]) (M2 := (A, G, PF)) (hs2 := []) (C := True) [(.aload_n 0, 0, 0), (.getfield 22, 2, 3)] [] (by decide +kernel) rfl trivial ?_
  refine go_ifz (cnd := .le) (off := 11) 15 (by decide +kernel) (by decide) (fun (c1 : (A 9 3) ≤ 0) => ?_) (fun (c1 : ¬ (A 9 3) ≤ 0) => ?_)
  · skip
    replace c1 : lv ≤ 0 := (nx_le (a := lv) (b := 0) hlv rfl (by omega) (by omega)).mp c1
    refine go_blk (pc2 := 16) (L2 := [.ref 9]) (st2 := [.int 0]) (M2 := (A, G, PF)) (hs2 := []) (C := True) [(.iconst 0, 0, 0)] [] (by decide +kernel) rfl trivial ?_
    exact go_retz (by decide +kernel) rfl (Or.inl rfl) (Or.inr ⟨by omega, rfl, rfl⟩)
  · skip
    replace c1 : ¬ lv ≤ 0 := fun zz => c1 ((nx_le (a := lv) (b := 0) hlv rfl (by omega) (by omega)).mpr zz)
    refine go_blk (pc2 := 12) (L2 := [.ref 9]) (st2 := [.int 4, .int (A 9 3)]) (M2 := (A, G, PF)) (hs2 := []) (C := True) [(.aload_n 0, 0, 0), (.getfield 22, 2, 3), (.iconst 4, 0, 0)] [] (by decide +kernel) rfl trivial ?_
    refine go_cmp (cnd := .le) (off := 5) 17 (by decide +kernel) (by decide) (fun _ => ?_) (fun (h : ¬ (A 9 3) ≤ 4) => absurd h (fun zz => zz ((nx_le (a := lv) (b := 4) hlv rfl (by omega) (by omega)).mpr (by omega))))
    refine go_blk (pc2 := 41) (L2 := [.ref 9]) (st2 := [.int 1]) (M2 := ((u2 (u2 A 9 3 ((A 9 3) - 1)) 9 2 (A 11 (lv - 1))), G, PF)) (hs2 := []) (C := (((A 9 3) - 1) = nI (lv - 1) ∧ (lv - 1) < 4) ∧ True) [(.aload_n 0, 0, 0), (.dup, 0, 0), (.getfield 22, 2, 3), (.iconst 1, 0, 0), (.isub, 0, 0), (.putfield 22, 2, 3), (.aload_n 0, 0, 0), (.aload_n 0, 0, 0), (.getfield 15, 2, 1), (.aload_n 0, 0, 0), (.getfield 22, 2, 3), (.iaload, 0, 0), (.putfield 18, 2, 2), (.iconst 1, 0, 0)] [(lv - 1)] (by decide +kernel) rfl ⟨⟨(hlm (by omega)), by omega⟩, trivial⟩ ?_
    exact go_retz (by decide +kernel) rfl (Or.inr rfl) (Or.inl ⟨by omega, rfl, rfl⟩)
