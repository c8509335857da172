/-! ===== the law itself ===== -/
theorem ati_0 : Ati MA_5 0 := by
  have k0 : ∀ k, k < 5 → MA_5 2 k = 0 ∧ MA_5 3 k = 0 ∧ MA_5 4 k = 0 ∧ MA_5 5 k = 0 ∧ MA_5 6 k = 0 := by decide +kernel
  have kl : ∀ k, k < 24 → MA_5 10 k = 0 := by decide +kernel
  refine ⟨fun k hk h3 => ?_, fun k hk => ?_, by decide +kernel, by decide +kernel, by decide +kernel, fun k hk => ?_, fun p h5 h14 => ?_, by decide +kernel⟩
  · rw [(k0 k hk).1] at h3
    exact absurd h3 (by decide)
  · refine Or.inr ?_
    unfold lit
    rw [kl k hk]
    decide
  · unfold row3
    obtain ⟨-, e1, e2, e3, e4⟩ := k0 k hk
    rw [e1, e2, e3, e4]
    exact ⟨⟨by decide, by decide⟩, ⟨by decide, by decide⟩, ⟨by decide, by decide⟩⟩
  · have h : ∀ p, p < 14 → 5 ≤ p → RC MA_5 p = fx9 (fxi p) := by decide +kernel
    exact h p h14 h5
theorem q_world0 (l : Launch) {A : Nat → Nat → Int32} (G : Nat → Nat → Int64) {dm : Nat} (hA : Ati A dm) (hd : dm < 32) : Sem l mX5_world [.ref 0, .int 0] 27 (A, G, PF) 27 (fun r M2 => r = some (.int (bi (∃ B, M2 = (B, G, PF) ∧ Wd B dm 0 0))) ∧ ∃ B cnt, M2 = (B, G, PF) ∧ Std B dm 0 cnt ∧ RfF A B) := by
  have hK := hA.ki hd
  refine (s_X5_world l A G dm 0 hK (fun z => absurd z hA.2.2.2.2.2.2.2) 0).mono ?_
  rintro v M ⟨B, cnt, rfl, hC, hR, hz, rfl⟩
  refine ⟨?_, B, cnt, rfl, ⟨hK.rf hR, hC, hz.1⟩, hR⟩
  show some (Value.int (bi (∃ m, m < 32 ∧ (0 : Int32) &&& nI dm = nI m ∧ Wd B dm 0 m))) = _
  have e0 : (0 : Int32) &&& nI dm = nI 0 := by rw [Int32.zero_and]; rfl
  refine congrArg (fun q => some (Value.int q)) (bi_c ⟨fun ⟨m, h1, h2, h3⟩ => ?_, fun ⟨B2, h1, h2⟩ => ?_⟩)
  · rw [e0] at h2
    have := nI_inj (by decide) (by omega) h2
    subst this
    exact ⟨B, rfl, h3⟩
  · injection h1 with h1 _
    subst h1
    exact ⟨0, by decide, e0, h2⟩
theorem t_r10 (x : Int32) : ∃ j, j < 10 ∧ (x &&& 15) - (x &&& 15) / 10 * 10 = nI j := by
  obtain ⟨j, h1, h2⟩ := andk x 15 (by decide)
  rw [show x &&& 15 = nI j from h2]
  have h : ∀ j, j < 16 → nI j - nI j / 10 * 10 = nI (j % 10) := by decide +kernel
  exact ⟨j % 10, by omega, h j (by omega)⟩
theorem t_r5 (x : Int32) : ∃ j, j < 5 ∧ (x &&& 15) - (x &&& 15) / 5 * 5 = nI j := by
  obtain ⟨j, h1, h2⟩ := andk x 15 (by decide)
  rw [show x &&& 15 = nI j from h2]
  have h : ∀ j, j < 16 → nI j - nI j / 5 * 5 = nI (j % 5) := by decide +kernel
  exact ⟨j % 5, by omega, h j (by omega)⟩
theorem t_a : ∀ j, j < 10 → (-9 ≤ nI j ∧ nI j ≤ 9) ∧ (-9 ≤ -nI j ∧ -nI j ≤ 9) ∧ (-9 ≤ nI j - 4 ∧ nI j - 4 ≤ 9) ∧ (-9 ≤ -(nI j - 4) ∧ -(nI j - 4) ≤ 9) ∧ (-9 ≤ nI j - 2 ∧ nI j - 2 ≤ 9) ∧ (-9 ≤ -(nI j - 2) ∧ -(nI j - 2) ≤ 9) := by decide +kernel
theorem t_f (v : Int32) : (f9 ((v &&& (15 : Int32)) - (v &&& (15 : Int32)) / 10 * 10) ∧ f9 (((v >>> (4 &&& 31)) &&& (15 : Int32)) - ((v >>> (4 &&& 31)) &&& (15 : Int32)) / 10 * 10 - 4) ∧ f9 (((v >>> (8 &&& 31)) &&& (15 : Int32)) - ((v >>> (8 &&& 31)) &&& (15 : Int32)) / 5 * 5 - 2)) ∧
    (f9 (-((v &&& (15 : Int32)) - (v &&& (15 : Int32)) / 10 * 10)) ∧ f9 (-(((v >>> (4 &&& 31)) &&& (15 : Int32)) - ((v >>> (4 &&& 31)) &&& (15 : Int32)) / 10 * 10 - 4)) ∧ f9 (-(((v >>> (8 &&& 31)) &&& (15 : Int32)) - ((v >>> (8 &&& 31)) &&& (15 : Int32)) / 5 * 5 - 2))) := by
  obtain ⟨i, i1, i2⟩ := t_r10 v
  obtain ⟨j, j1, j2⟩ := t_r10 (v >>> (4 &&& 31))
  obtain ⟨k, k1, k2⟩ := t_r5 (v >>> (8 &&& 31))
  rw [i2, j2, k2]
  exact ⟨⟨(t_a i i1).1, (t_a j j1).2.2.1, (t_a k (by omega)).2.2.2.2.1⟩, (t_a i i1).2.1, (t_a j j1).2.2.2.1, (t_a k (by omega)).2.2.2.2.2⟩
theorem sub_w {B A : Nat → Nat → Int32} {N : Nat} {xs : Nat → Int32} {mm nn dm : Nat} (h : Cla B A N xs mm nn) : wI (Wd A dm nn) 32 &&& (wI (Wd B dm 0) 32 ^^^ (-1)) = 0 :=
  wI_sub fun s _ hw => ⟨hw.1, by rw [← h.1 23 (by decide) (by decide)]; exact hw.2.1, fun n hn => absurd hn (Nat.not_lt_zero n)⟩
theorem Cla.nrr {B A : Nat → Nat → Int32} {N : Nat} {xs : Nat → Int32} {mm nn : Nat} (hB : Nrr B) (h : Cla B A N xs mm nn) : Nrr A := by
  have e := h.1
  refine ⟨fun k hk => ?_, fun p q1 q2 => ?_⟩
  · have := hB.1 k hk
    unfold row3 at this ⊢
    rw [e 3 (by decide) (by decide), e 4 (by decide) (by decide), e 5 (by decide) (by decide), e 6 (by decide) (by decide)]
    exact this
  · have := hB.2 p q1 q2
    unfold RC at this ⊢
    rw [e 13 (by decide) (by decide), e 14 (by decide) (by decide), e 15 (by decide) (by decide), e 16 (by decide) (by decide)]
    exact this
def PostL : Option Value → Mem → Prop := fun r _ => r = some (.int 1)
set_option maxRecDepth 100000 in
set_option maxHeartbeats 4000000 in
theorem s_X6_set0 (l : Launch) (A : Nat → Nat → Int32) (G : Nat → Nat → Int64) (mm P dm : Nat) (hM : Mm mm P dm) (hA : Ati A dm) : Sem l mX6_set [.ref 0, .int (nI mm)] 27 (A, G, PF) 27 (fun r M2 => ∃ B cnt, r = some (.int (wI (Wd B dm 0) 32)) ∧ M2 = (B, G, PF) ∧ Std B dm 0 cnt ∧ RfF A B) := by
  refine sem_of_go (by decide) rfl (by decide) (by decide) rfl (Nat.le_of_ble_eq_true rfl) ?_
  show Go l ro0 mX6_set 27 (A, G, PF) 0 [.ref 0, .int (nI mm), .null, .null] [] 27 (fun r M2 => ∃ B cnt, r = some (.int (wI (Wd B dm 0) 32)) ∧ M2 = (B, G, PF) ∧ Std B dm 0 cnt ∧ RfF A B)
  refine go_blk (pc2 := 4) (L2 := [.ref 0, .int (nI mm), .int 0, .int 0]) (st2 := []) (M2 := (A, G, PF)) (hs2 := []) (C := True) [(.iconst 0, 0, 0), (.istore_n 2, 0, 0), (.iconst 0, 0, 0), (.istore_n 3, 0, 0)] [] (by decide +kernel) rfl trivial ?_
  refine go_blk (pc2 := 8) (L2 := [.ref 0, .int (nI mm), .int (0 : Int32), .int (0 : Int32)]) (st2 := [.int (1 <<< ((nI mm) &&& 31)), .int (0 : Int32)]) (M2 := (A, G, PF)) (hs2 := []) (C := True) [(.iload_n 3, 0, 0), (.iconst 1, 0, 0), (.iload_n 1, 0, 0), (.ishl, 0, 0)] [] (by decide +kernel) rfl trivial ?_
  refine go_cmp (cnd := .ge) (off := 23) 31 (by decide +kernel) (by decide) (fun (h : (1 <<< ((nI mm) &&& 31)) ≤ (0 : Int32)) => absurd h (fun zz => absurd ((nx_le (a := P) (b := 0) hM.pw rfl (by have := hM.le; omega) (by have := hM.le; omega)).mp zz) (by have := hM.le; omega))) (fun _ => ?_)
  refine go_blk (pc2 := 13) (L2 := [.ref 0, .int (nI mm), .int (0 : Int32), .int (0 : Int32)]) (st2 := [.int (0 : Int32), .ref 0]) (M2 := (A, G, PF)) (hs2 := []) (C := True) [(.aload_n 0, 0, 0), (.iload_n 3, 0, 0)] [] (by decide +kernel) rfl trivial ?_
  refine go_call (Y2 := mX5_world) (n2 := 27) (st := []) [.ref 0] [.int (0 : Int32)] ck_6_31 cwX5_world rfl (by decide +kernel) rfl (fun h => absurd h (by decide)) (fun _ => ⟨0, rfl, by decide, rfl⟩) (Nat.le_of_ble_eq_true rfl) (Or.inl rfl) (fun _ _ _ h => h) (q_world0 l G hA hM.le.2.2.1) (fun v M2 hp1 => ?_)
  obtain ⟨rfl, B, cnt, rfl, hS, hR⟩ := hp1
  have hW : (∃ B2 : Nat → Nat → Int32, ((B, G, PF) : Mem) = (B2, G, PF) ∧ Wd B2 dm 0 0) ↔ Wd B dm 0 0 := ⟨fun ⟨B2, h1, h2⟩ => by injection h1 with h1 _; subst h1; exact h2, fun z => ⟨B, rfl, z⟩⟩
  rw [bi_c hW]
  rcases Classical.em (Wd B dm 0 0) with hb2 | hb2
  · rw [bi_t hb2]
    show Go l ro0 mX6_set 27 (B, G, PF) 16 [.ref 0, .int (nI mm), .int (0 : Int32), .int (0 : Int32)] [.int 1] 27 _
    refine go_ifz (cnd := .eq) (off := 9) 25 (by decide +kernel) (by decide) (fun (h : (1 : Int32) = 0) => absurd h (by decide)) (fun _ => ?_)
    refine go_blk (pc2 := 28) (L2 := [.ref 0, .int (nI mm), .int ((0 : Int32) ||| (1 <<< ((0 : Int32) &&& 31))), .int ((0 : Int32) + 1)]) (st2 := []) (M2 := (B, G, PF)) (hs2 := []) (C := True) [(.iload_n 2, 0, 0), (.iconst 1, 0, 0), (.iload_n 3, 0, 0), (.ishl, 0, 0), (.ior, 0, 0), (.istore_n 2, 0, 0), (.iinc 3 1, 0, 0)] [] (by decide +kernel) rfl trivial ?_
    refine go_goto (off := -24) 4 (by decide +kernel) (by decide) ?_
    exact Go.mono (go_as (lp_X6_set l B G mm P dm 0 cnt hM hS hM.le.1 1 (by have := hM.le; omega)) rfl (by rw [show wI (Wd B dm 0) 1 = wI (Wd B dm 0) (0 + 1) from rfl, wI_t (by assumption)]; rfl) rfl) (by rintro _ _ ⟨rfl, rfl⟩; exact ⟨B, cnt, by rw [hM.wI B 0], rfl, hS, hR⟩)
  · rw [bi_f hb2]
    show Go l ro0 mX6_set 27 (B, G, PF) 16 [.ref 0, .int (nI mm), .int (0 : Int32), .int (0 : Int32)] [.int 0] 27 _
    refine go_ifz (cnd := .eq) (off := 9) 25 (by decide +kernel) (by decide) (fun _ => ?_) (fun (h : ¬ (0 : Int32) = 0) => absurd h (by decide))
    refine go_blk (pc2 := 28) (L2 := [.ref 0, .int (nI mm), .int (0 : Int32), .int ((0 : Int32) + 1)]) (st2 := []) (M2 := (B, G, PF)) (hs2 := []) (C := True) [(.iinc 3 1, 0, 0)] [] (by decide +kernel) rfl trivial ?_
    refine go_goto (off := -24) 4 (by decide +kernel) (by decide) ?_
    exact Go.mono (go_as (lp_X6_set l B G mm P dm 0 cnt hM hS hM.le.1 1 (by have := hM.le; omega)) rfl (by rw [show wI (Wd B dm 0) 1 = wI (Wd B dm 0) (0 + 1) from rfl, wI_f (by assumption)]; rfl) rfl) (by rintro _ _ ⟨rfl, rfl⟩; exact ⟨B, cnt, by rw [hM.wI B 0], rfl, hS, hR⟩)
set_option maxRecDepth 100000 in
set_option maxHeartbeats 4000000 in
theorem s_X6_fixed (l : Launch) (w c d : Int32) : Sem l mX6_fixed [.int w, .int c, .int d] 0 (ZA, ZG, ZP) 27 (fun v _ => v = some (.int 1)) := by
  refine sem_of_go (by decide) rfl (by decide) (by decide) rfl (Nat.le_of_ble_eq_true rfl) ?_
  show Go l ro0 mX6_fixed 0 (ZA, ZG, ZP) 0 [.int w, .int c, .int d, .null, .null, .null, .null, .null, .null, .null, .null] [] 27 (fun v _ => v = some (.int 1))
  refine go_new (idx := 14) (ci := 5) (p1 := 24) (p2 := 25) (p3 := 17) (by decide +kernel) (by decide +kernel) rfl (by decide) (by decide) (by decide +kernel) rfl ?_
  rw [zer_id (n := 0) (M := (ZA, ZG, ZP)) (fun _ => rfl) (fun _ => rfl) (fun _ => rfl)]
  refine go_blk (pc2 := 4) (L2 := [.int w, .int c, .int d, .null, .null, .null, .null, .null, .null, .null, .null]) (st2 := [.ref 0, .ref 0]) (M2 := (ZA, ZG, ZP)) (hs2 := []) (C := True) [(.dup, 0, 0)] [] (by decide +kernel) rfl trivial ?_
  refine go_call (Y2 := mX5_init) (n2 := 27) (st := [.ref 0]) [.ref 0] [] ck_6_78 cwX5_init rfl (by decide +kernel) rfl (fun h => absurd h (by decide)) (fun _ => ⟨0, rfl, by decide, rfl⟩) (Nat.le_of_ble_eq_true rfl) (Or.inr rfl) (fun _ _ _ h => h) (s_X5_init l) (fun v M2 hp1 => ?_)
  obtain ⟨rfl, rfl⟩ := hp1
  rw [P5_PF]
  show Go l ro0 mX6_fixed 27 (MA_5, MG_5, PF) 7 [.int w, .int c, .int d, .null, .null, .null, .null, .null, .null, .null, .null] [.ref 0] 27 _
  refine go_blk (pc2 := 8) (L2 := [.int w, .int c, .int d, .ref 0, .null, .null, .null, .null, .null, .null, .null]) (st2 := []) (M2 := (MA_5, MG_5, PF)) (hs2 := []) (C := True) [(.astore_n 3, 0, 0)] [] (by decide +kernel) rfl trivial ?_
  exact fx_main l MA_5 MG_5 ati_0 w c d
set_option maxRecDepth 100000 in
set_option maxHeartbeats 4000000 in
theorem law_top (l : Launch) (N : Nat) (hN : N < 2 ^ 31) (xs : Nat → Int32) : Go l (ro1 N xs) mX6_law 0 (ZA, ZG, ZP) 0 [.ref 103, .null, .null, .null, .null, .null] [] 54 (PostL) := by
  refine go_new (idx := 14) (ci := 5) (p1 := 24) (p2 := 25) (p3 := 17) (by decide +kernel) (by decide +kernel) rfl (by decide) (by decide) (by decide +kernel) rfl ?_
  rw [zer_id (n := 0) (M := (ZA, ZG, ZP)) (fun _ => rfl) (fun _ => rfl) (fun _ => rfl)]
  refine go_blk (pc2 := 4) (L2 := [.ref 103, .null, .null, .null, .null, .null]) (st2 := [.ref 0, .ref 0]) (M2 := (ZA, ZG, ZP)) (hs2 := []) (C := True) [(.dup, 0, 0)] [] (by decide +kernel) rfl trivial ?_
  refine go_call (Y2 := mX5_init) (n2 := 27) (st := [.ref 0]) [.ref 0] [] ck_6_78 cwX5_init rfl (by decide +kernel) rfl (fun h => absurd h (by decide)) (fun _ => ⟨0, rfl, by decide, rfl⟩) (Nat.le_of_ble_eq_true rfl) (Or.inr rfl) (ro1_ro0 N xs) (s_X5_init l) (fun v M2 hp1 => ?_)
  obtain ⟨rfl, rfl⟩ := hp1
  rw [P5_PF]
  show Go l (ro1 N xs) mX6_law 27 (MA_5, MG_5, PF) 7 [.ref 103, .null, .null, .null, .null, .null] [.ref 0] 54 _
  refine go_blk (pc2 := 10) (L2 := [.ref 103, .ref 0, .null, .null, .null, .null]) (st2 := [.ref 103, .ref 0]) (M2 := (MA_5, MG_5, PF)) (hs2 := []) (C := True) [(.astore_n 1, 0, 0), (.aload_n 1, 0, 0), (.aload_n 0, 0, 0)] [] (by decide +kernel) rfl trivial ?_
  refine go_call (Y2 := mX6_atoms) (n2 := 27) (st := []) [] [.ref 0, .ref 103] ck_6_79 cwX6_atoms rfl (by decide +kernel) rfl (fun _ => rfl) (fun h => absurd rfl h) (Nat.le_of_ble_eq_true rfl) (Or.inl rfl) (fun _ _ _ h => h) (s_X6_atoms l N hN xs MA_5 MG_5 ati_0) (fun v M2 hp2 => ?_)
  obtain ⟨mm, P, dm, A1, hM, rfl, rfl, hA1⟩ := hp2
  show Go l (ro1 N xs) mX6_law 27 (A1, MG_5, PF) 13 [.ref 103, .ref 0, .null, .null, .null, .null] [.int (nI mm)] 54 _
  refine go_blk (pc2 := 15) (L2 := [.ref 103, .ref 0, .int (nI mm), .null, .null, .null]) (st2 := [.int (nI mm)]) (M2 := (A1, MG_5, PF)) (hs2 := []) (C := True) [(.istore_n 2, 0, 0), (.iload_n 2, 0, 0)] [] (by decide +kernel) rfl trivial ?_
  refine go_ifz (cnd := .ge) (off := 5) 20 (by decide +kernel) (by decide) (fun _ => ?_) (fun (h : ¬ 0 ≤ (nI mm)) => absurd h (fun zz => zz ((nx_le (a := 0) (b := mm) rfl rfl (by have := hM.le; omega) (by have := hM.le; omega)).mpr (by have := hM.le; omega))))
  refine go_blk (pc2 := 22) (L2 := [.ref 103, .ref 0, .int (nI mm), .null, .null, .null]) (st2 := [.int (nI mm), .ref 0]) (M2 := (A1, MG_5, PF)) (hs2 := []) (C := True) [(.aload_n 1, 0, 0), (.iload_n 2, 0, 0)] [] (by decide +kernel) rfl trivial ?_
  refine go_call (Y2 := mX6_set) (n2 := 27) (st := []) [] [.ref 0, .int (nI mm)] ck_6_42 cwX6_set rfl (by decide +kernel) rfl (fun _ => rfl) (fun h => absurd rfl h) (Nat.le_of_ble_eq_true rfl) (Or.inl rfl) (ro1_ro0 N xs) (s_X6_set0 l A1 MG_5 mm P dm hM hA1) (fun v M2 hp3 => ?_)
  obtain ⟨B, cnt, rfl, rfl, hS, hR⟩ := hp3
  have h93 : B 9 3 = 0 := by rw [hR.1 9 (by decide) (by decide)]; exact hA1.2.2.2.2.1
  have hNB : Nrr B := hA1.nrr.rf hR
  show Go l (ro1 N xs) mX6_law 27 (B, MG_5, PF) 25 [.ref 103, .ref 0, .int (nI mm), .null, .null, .null] [.int (wI (Wd B dm 0) 32)] 54 _
  refine go_blk (pc2 := 29) (L2 := [.ref 103, .ref 0, .int (nI mm), .int (wI (Wd B dm 0) 32), .null, .null]) (st2 := [.int (nI mm), .ref 103, .ref 0]) (M2 := (B, MG_5, PF)) (hs2 := []) (C := True) [(.istore_n 3, 0, 0), (.aload_n 1, 0, 0), (.aload_n 0, 0, 0), (.iload_n 2, 0, 0)] [] (by decide +kernel) rfl trivial ?_
  refine go_call (Y2 := mX6_clauses) (n2 := 27) (st := []) [] [.ref 0, .ref 103, .int (nI mm)] ck_6_83 cwX6_clauses rfl (by decide +kernel) rfl (fun _ => rfl) (fun h => absurd rfl h) (Nat.le_of_ble_eq_true rfl) (Or.inl rfl) (fun _ _ _ h => h) (s_X6_clauses l N hN xs B MG_5 mm P dm cnt hM hS h93) (fun v M2 hp4 => ?_)
  obtain ⟨rfl, nn, A2, hnn, hxn, rfl, hCl⟩ := hp4
  have hS2 := hCl.std hS (by omega)
  have hN2 := hCl.nrr hNB
  show Go l (ro1 N xs) mX6_law 27 (A2, MG_5, PF) 32 [.ref 103, .ref 0, .int (nI mm), .int (wI (Wd B dm 0) 32), .null, .null] [] 54 _
  refine go_blk (pc2 := 34) (L2 := [.ref 103, .ref 0, .int (nI mm), .int (wI (Wd B dm 0) 32), .null, .null]) (st2 := [.int (nI mm), .ref 0]) (M2 := (A2, MG_5, PF)) (hs2 := []) (C := True) [(.aload_n 1, 0, 0), (.iload_n 2, 0, 0)] [] (by decide +kernel) rfl trivial ?_
  refine go_call (Y2 := mX6_set) (n2 := 27) (st := []) [] [.ref 0, .int (nI mm)] ck_6_42 cwX6_set rfl (by decide +kernel) rfl (fun _ => rfl) (fun h => absurd rfl h) (Nat.le_of_ble_eq_true rfl) (Or.inl rfl) (ro1_ro0 N xs) (s_X6_set l A2 MG_5 mm P dm nn cnt hM hS2) (fun v M2 hp5 => ?_)
  obtain ⟨rfl, rfl⟩ := hp5
  show Go l (ro1 N xs) mX6_law 27 (A2, MG_5, PF) 37 [.ref 103, .ref 0, .int (nI mm), .int (wI (Wd B dm 0) 32), .null, .null] [.int (wI (Wd A2 dm nn) 32)] 54 _
  refine go_blk (pc2 := 40) (L2 := [.ref 103, .ref 0, .int (nI mm), .int (wI (Wd B dm 0) 32), .int (wI (Wd A2 dm nn) 32), .null]) (st2 := [.ref 0]) (M2 := (A2, MG_5, PF)) (hs2 := []) (C := True) [(.istore 4, 0, 0), (.aload_n 1, 0, 0)] [] (by decide +kernel) rfl trivial ?_
  refine go_call (Y2 := mX5_worlds) (n2 := 27) (st := []) [.ref 0] [] ck_6_67 cwX5_worlds rfl (by decide +kernel) rfl (fun h => absurd h (by decide)) (fun _ => ⟨0, rfl, by decide, rfl⟩) (Nat.le_of_ble_eq_true rfl) (Or.inl rfl) (ro1_ro0 N xs) (q_worlds l MG_5 hS2) (fun v M2 hp6 => ?_)
  obtain ⟨rfl, rfl⟩ := hp6
  show Go l (ro1 N xs) mX6_law 27 (A2, MG_5, PF) 43 [.ref 103, .ref 0, .int (nI mm), .int (wI (Wd B dm 0) 32), .int (wI (Wd A2 dm nn) 32), .null] [.int (nI (cntw A2 dm nn 32))] 54 _
  refine go_blk (pc2 := 45) (L2 := [.ref 103, .ref 0, .int (nI mm), .int (wI (Wd B dm 0) 32), .int (wI (Wd A2 dm nn) 32), .null]) (st2 := [.int (wI (Wd A2 dm nn) 32), .int (nI (cntw A2 dm nn 32))]) (M2 := (A2, MG_5, PF)) (hs2 := []) (C := True) [(.iload 4, 0, 0)] [] (by decide +kernel) rfl trivial ?_
  refine go_call (Y2 := mX6_bits) (n2 := 27) (st := [.int (nI (cntw A2 dm nn 32))]) [] [.int (wI (Wd A2 dm nn) 32)] ck_6_87 cwX6_bits rfl (by decide +kernel) rfl (fun _ => rfl) (fun h => absurd rfl h) (Nat.le_of_ble_eq_true rfl) (Or.inl rfl) (ro1_ro0 N xs) (s_X6_bits l A2 MG_5 (wI (Wd A2 dm nn) 32)) (fun v M2 hp7 => ?_)
  obtain ⟨rfl, rfl⟩ := hp7
  rw [pcn_cnt]
  show Go l (ro1 N xs) mX6_law 27 (A2, MG_5, PF) 48 [.ref 103, .ref 0, .int (nI mm), .int (wI (Wd B dm 0) 32), .int (wI (Wd A2 dm nn) 32), .null] [.int (nI (cntw A2 dm nn 32)), .int (nI (cntw A2 dm nn 32))] 54 _
  refine go_cmp (cnd := .ne) (off := 32) 80 (by decide +kernel) (by decide) (fun (h : ¬ (nI (cntw A2 dm nn 32)) = (nI (cntw A2 dm nn 32))) => absurd h (fun zz => zz rfl)) (fun _ => ?_)
  refine go_blk (pc2 := 57) (L2 := [.ref 103, .ref 0, .int (nI mm), .int (wI (Wd B dm 0) 32), .int (wI (Wd A2 dm nn) 32), .null]) (st2 := [.int ((wI (Wd A2 dm nn) 32) &&& ((wI (Wd B dm 0) 32) ^^^ (-1)))]) (M2 := (A2, MG_5, PF)) (hs2 := []) (C := True) [(.iload 4, 0, 0), (.iload_n 3, 0, 0), (.iconst (-1), 0, 0), (.ixor, 0, 0), (.iand, 0, 0)] [] (by decide +kernel) rfl trivial ?_
  refine go_ifz (cnd := .ne) (off := 23) 80 (by decide +kernel) (by decide) (fun (h : ¬ ((wI (Wd A2 dm nn) 32) &&& ((wI (Wd B dm 0) 32) ^^^ (-1))) = 0) => absurd h (fun zz => zz (sub_w hCl))) (fun _ => ?_)
  refine go_blk (pc2 := 64) (L2 := [.ref 103, .ref 0, .int (nI mm), .int (wI (Wd B dm 0) 32), .int (wI (Wd A2 dm nn) 32), .null]) (st2 := [.int (nI mm), .ref 103, .int (wI (Wd A2 dm nn) 32)]) (M2 := (A2, MG_5, PF)) (hs2 := []) (C := True) [(.iload 4, 0, 0), (.aload_n 0, 0, 0), (.iload_n 2, 0, 0)] [] (by decide +kernel) rfl trivial ?_
  refine go_call (Y2 := mX6_satisfied) (n2 := 27) (st := []) [] [.int (wI (Wd A2 dm nn) 32), .ref 103, .int (nI mm)] ck_6_90 cwX6_satisfied rfl (by decide +kernel) rfl (fun _ => rfl) (fun h => absurd rfl h) (Nat.le_of_ble_eq_true rfl) (Or.inl rfl) (fun _ _ _ h => h) (s_X6_satisfied l N hN xs A2 MG_5 B mm P dm hM nn hnn hCl hxn) (fun v M2 hp8 => ?_)
  obtain ⟨rfl, rfl⟩ := hp8
  show Go l (ro1 N xs) mX6_law 27 (A2, MG_5, PF) 67 [.ref 103, .ref 0, .int (nI mm), .int (wI (Wd B dm 0) 32), .int (wI (Wd A2 dm nn) 32), .null] [.int 1] 54 _
  refine go_ifz (cnd := .eq) (off := 13) 80 (by decide +kernel) (by decide) (fun (h : (1 : Int32) = 0) => absurd h (by decide)) (fun _ => ?_)
  refine go_blk (pc2 := 74) (L2 := [.ref 103, .ref 0, .int (nI mm), .int (wI (Wd B dm 0) 32), .int (wI (Wd A2 dm nn) 32), .null]) (st2 := [.int (wI (Wd A2 dm nn) 32), .int (nI mm), .ref 0]) (M2 := (A2, MG_5, PF)) (hs2 := []) (C := True) [(.aload_n 1, 0, 0), (.iload_n 2, 0, 0), (.iload 4, 0, 0)] [] (by decide +kernel) rfl trivial ?_
  refine go_call (Y2 := mX6_halves) (n2 := 27) (st := []) [] [.ref 0, .int (nI mm), .int (wI (Wd A2 dm nn) 32)] ck_6_94 cwX6_halves rfl (by decide +kernel) rfl (fun _ => rfl) (fun h => absurd rfl h) (Nat.le_of_ble_eq_true rfl) (Or.inl rfl) (ro1_ro0 N xs) (s_X6_halves l A2 A2 MG_5 mm P dm nn cnt hM hS2 (by omega) (Ext.rf hS2.1 hCl.2.2.2.1 _)) (fun v M2 hp9 => ?_)
  obtain ⟨rfl, A3, rfl, hE3⟩ := hp9
  show Go l (ro1 N xs) mX6_law 27 (A3, MG_5, PF) 77 [.ref 103, .ref 0, .int (nI mm), .int (wI (Wd B dm 0) 32), .int (wI (Wd A2 dm nn) 32), .null] [.int 1] 54 _
  refine go_ifz (cnd := .ne) (off := 5) 82 (by decide +kernel) (by decide) (fun _ => ?_) (fun (h : (1 : Int32) = 0) => absurd h (by decide))
  refine go_blk (pc2 := 85) (L2 := [.ref 103, .ref 0, .int (nI mm), .int (wI (Wd B dm 0) 32), .int (wI (Wd A2 dm nn) 32), .null]) (st2 := [.int 9, .ref 103]) (M2 := (A3, MG_5, PF)) (hs2 := []) (C := True) [(.aload_n 0, 0, 0), (.bipush 9, 0, 0)] [] (by decide +kernel) rfl trivial ?_
  refine go_call (Y2 := mX6_cell) (n2 := 27) (st := []) [] [.ref 103, .int 9] ck_6_7 cwX6_cell rfl (by decide +kernel) rfl (fun _ => rfl) (fun h => absurd rfl h) (Nat.le_of_ble_eq_true rfl) (Or.inl rfl) (fun _ _ _ h => h) (s_X6_cell l N hN xs A3 MG_5 9 (by decide) 9 rfl) (fun v M2 hp10 => ?_)
  obtain ⟨rfl, rfl⟩ := hp10
  show Go l (ro1 N xs) mX6_law 27 (A3, MG_5, PF) 88 [.ref 103, .ref 0, .int (nI mm), .int (wI (Wd B dm 0) 32), .int (wI (Wd A2 dm nn) 32), .null] [.int (xc N xs 9)] 54 _
  refine go_blk (pc2 := 126) (L2 := [.ref 103, .ref 0, .int (nI mm), .int (wI (Wd B dm 0) 32), .int (wI (Wd A2 dm nn) 32), .int (xc N xs 9)]) (st2 := [.int (((((xc N xs 9) >>> (8 &&& 31)) &&& (15 : Int32)) - ((((xc N xs 9) >>> (8 &&& 31)) &&& (15 : Int32)) / 5) * 5) - 2), .int (((((xc N xs 9) >>> (4 &&& 31)) &&& (15 : Int32)) - ((((xc N xs 9) >>> (4 &&& 31)) &&& (15 : Int32)) / 10) * 10) - 4), .int (((xc N xs 9) &&& (15 : Int32)) - (((xc N xs 9) &&& (15 : Int32)) / 10) * 10), .int (wI (Wd A2 dm nn) 32), .int (nI mm), .ref 0]) (M2 := (A3, MG_5, PF)) (hs2 := []) (C := (¬ 10 = 0) ∧ (¬ 10 = 0) ∧ (¬ 5 = 0) ∧ True) [(.istore 5, 0, 0), (.aload_n 1, 0, 0), (.iload_n 2, 0, 0), (.iload 4, 0, 0), (.iload 5, 0, 0), (.bipush 15, 0, 0), (.iand, 0, 0), (.bipush 10, 0, 0), (.irem, 0, 0), (.iload 5, 0, 0), (.iconst 4, 0, 0), (.ishr, 0, 0), (.bipush 15, 0, 0), (.iand, 0, 0), (.bipush 10, 0, 0), (.irem, 0, 0), (.iconst 4, 0, 0), (.isub, 0, 0), (.iload 5, 0, 0), (.bipush 8, 0, 0), (.ishr, 0, 0), (.bipush 15, 0, 0), (.iand, 0, 0), (.iconst 5, 0, 0), (.irem, 0, 0), (.iconst 2, 0, 0), (.isub, 0, 0)] [] (by decide +kernel) rfl ⟨by decide, by decide, by decide, trivial⟩ ?_
  refine go_call (Y2 := mX6_tops) (n2 := 27) (st := []) [] [.ref 0, .int (nI mm), .int (wI (Wd A2 dm nn) 32), .int (((xc N xs 9) &&& (15 : Int32)) - (((xc N xs 9) &&& (15 : Int32)) / 10) * 10), .int (((((xc N xs 9) >>> (4 &&& 31)) &&& (15 : Int32)) - ((((xc N xs 9) >>> (4 &&& 31)) &&& (15 : Int32)) / 10) * 10) - 4), .int (((((xc N xs 9) >>> (8 &&& 31)) &&& (15 : Int32)) - ((((xc N xs 9) >>> (8 &&& 31)) &&& (15 : Int32)) / 5) * 5) - 2)] ck_6_98 cwX6_tops rfl (by decide +kernel) rfl (fun _ => rfl) (fun h => absurd rfl h) (Nat.le_of_ble_eq_true rfl) (Or.inl rfl) (ro1_ro0 N xs) (s_X6_tops l A2 A3 MG_5 mm P dm nn cnt hM hS2 hN2 (by omega) _ _ _ (t_f (xc N xs 9)).1 (t_f (xc N xs 9)).2 hE3) (fun v M2 hp11 => ?_)
  obtain ⟨rfl, A4, G4, rfl⟩ := hp11
  show Go l (ro1 N xs) mX6_law 27 (A4, G4, PF) 129 [.ref 103, .ref 0, .int (nI mm), .int (wI (Wd B dm 0) 32), .int (wI (Wd A2 dm nn) 32), .int (xc N xs 9)] [.int 1] 54 _
  refine go_ifz (cnd := .ne) (off := 5) 134 (by decide +kernel) (by decide) (fun _ => ?_) (fun (h : (1 : Int32) = 0) => absurd h (by decide))
  refine go_blk (pc2 := 137) (L2 := [.ref 103, .ref 0, .int (nI mm), .int (wI (Wd B dm 0) 32), .int (wI (Wd A2 dm nn) 32), .int (xc N xs 9)]) (st2 := [.int 10, .ref 103]) (M2 := (A4, G4, PF)) (hs2 := []) (C := True) [(.aload_n 0, 0, 0), (.bipush 10, 0, 0)] [] (by decide +kernel) rfl trivial ?_
  refine go_call (Y2 := mX6_cell) (n2 := 27) (st := []) [] [.ref 103, .int 10] ck_6_7 cwX6_cell rfl (by decide +kernel) rfl (fun _ => rfl) (fun h => absurd rfl h) (Nat.le_of_ble_eq_true rfl) (Or.inl rfl) (fun _ _ _ h => h) (s_X6_cell l N hN xs A4 G4 10 (by decide) 10 rfl) (fun v M2 hp12 => ?_)
  obtain ⟨rfl, rfl⟩ := hp12
  show Go l (ro1 N xs) mX6_law 27 (A4, G4, PF) 140 [.ref 103, .ref 0, .int (nI mm), .int (wI (Wd B dm 0) 32), .int (wI (Wd A2 dm nn) 32), .int (xc N xs 9)] [.int (xc N xs 10)] 54 _
  refine go_blk (pc2 := 143) (L2 := [.ref 103, .ref 0, .int (nI mm), .int (wI (Wd B dm 0) 32), .int (wI (Wd A2 dm nn) 32), .int (xc N xs 9)]) (st2 := [.int 11, .ref 103, .int (xc N xs 10)]) (M2 := (A4, G4, PF)) (hs2 := []) (C := True) [(.aload_n 0, 0, 0), (.bipush 11, 0, 0)] [] (by decide +kernel) rfl trivial ?_
  refine go_call (Y2 := mX6_cell) (n2 := 27) (st := [.int (xc N xs 10)]) [] [.ref 103, .int 11] ck_6_7 cwX6_cell rfl (by decide +kernel) rfl (fun _ => rfl) (fun h => absurd rfl h) (Nat.le_of_ble_eq_true rfl) (Or.inl rfl) (fun _ _ _ h => h) (s_X6_cell l N hN xs A4 G4 11 (by decide) 11 rfl) (fun v M2 hp13 => ?_)
  obtain ⟨rfl, rfl⟩ := hp13
  show Go l (ro1 N xs) mX6_law 27 (A4, G4, PF) 146 [.ref 103, .ref 0, .int (nI mm), .int (wI (Wd B dm 0) 32), .int (wI (Wd A2 dm nn) 32), .int (xc N xs 9)] [.int (xc N xs 11), .int (xc N xs 10)] 54 _
  refine go_blk (pc2 := 149) (L2 := [.ref 103, .ref 0, .int (nI mm), .int (wI (Wd B dm 0) 32), .int (wI (Wd A2 dm nn) 32), .int (xc N xs 9)]) (st2 := [.int 12, .ref 103, .int (xc N xs 11), .int (xc N xs 10)]) (M2 := (A4, G4, PF)) (hs2 := []) (C := True) [(.aload_n 0, 0, 0), (.bipush 12, 0, 0)] [] (by decide +kernel) rfl trivial ?_
  refine go_call (Y2 := mX6_cell) (n2 := 27) (st := [.int (xc N xs 11), .int (xc N xs 10)]) [] [.ref 103, .int 12] ck_6_7 cwX6_cell rfl (by decide +kernel) rfl (fun _ => rfl) (fun h => absurd rfl h) (Nat.le_of_ble_eq_true rfl) (Or.inl rfl) (fun _ _ _ h => h) (s_X6_cell l N hN xs A4 G4 12 (by decide) 12 rfl) (fun v M2 hp14 => ?_)
  obtain ⟨rfl, rfl⟩ := hp14
  show Go l (ro1 N xs) mX6_law 27 (A4, G4, PF) 152 [.ref 103, .ref 0, .int (nI mm), .int (wI (Wd B dm 0) 32), .int (wI (Wd A2 dm nn) 32), .int (xc N xs 9)] [.int (xc N xs 12), .int (xc N xs 11), .int (xc N xs 10)] 54 _
  exact go_last (Y2 := mX6_fixed) (n2 := 27) (M0 := (ZA, ZG, ZP)) [.int (xc N xs 10), .int (xc N xs 11), .int (xc N xs 12)] ck_6_102 cwX6_fixed rfl (by decide +kernel) (by decide +kernel) (by rw [show ([.int (xc N xs 10), .int (xc N xs 11), .int (xc N xs 12)] : List Value).length = 3 from rfl]; decide +kernel) (fun f => rfl) rfl (ro1_ro0 N xs) (s_X6_fixed l _ _ _) rfl
