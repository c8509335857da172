/-! ===== the law's loop, its start ===== -/
theorem and15 (x : Int32) : ∃ m, m < 16 ∧ x &&& 15 = nI m := by
  refine ⟨(x &&& 15).toBitVec.toNat, ?_, ?_⟩
  · rw [Int32.toBitVec_and, BitVec.toNat_and]
    exact Nat.lt_of_le_of_lt Nat.and_le_right (by decide)
  · apply Int32.toBitVec_inj.mp
    show _ = BitVec.ofNat 32 _
    simp
theorem lp_i {N i : Nat} (hN : N ≤ 3584) (hi : i ≤ N) : nI N - 7 < nI i ↔ N < i + 7 := by
  have e1 : (nI N).toInt = N := nI_toInt (by omega)
  have e2 : (nI i).toInt = i := nI_toInt (by omega)
  have e3 : (nI N - 7).toInt = (N : Int) - 7 := by
    rw [Int32.toInt_sub, e1, show ((7 : Int32)).toInt = 7 from rfl]
    apply Int.bmod_eq_of_le <;> omega
  rw [Int32.lt_iff_toInt_lt, e2, e3]
  omega
set_option maxRecDepth 100000 in
set_option maxHeartbeats 4000000 in
theorem law_no (l : Launch) (N : Nat) (xs : Nat → Int32) (A : Nat → Nat → Int32) (G : Nat → Nat → Int64) (i : Nat) (hout : Go l (ro1 N xs) mX7_law 39 (A, G, PF) 18 [.ref 103, .ref 0, .ref 27, .int (nI (i + 7))] [] 39 PostL) : Go l (ro1 N xs) mX7_law 39 (A, G, PF) 474 [.ref 103, .ref 0, .ref 27, .int (nI i)] [] 39 PostL := by
  refine go_blk (pc2 := 477) (L2 := [.ref 103, .ref 0, .ref 27, .int ((nI i) + 7)]) (st2 := []) (M2 := (A, G, PF)) (hs2 := []) (C := True) [(.iinc 3 7, 0, 0)] [] (by decide +kernel) rfl trivial ?_
  refine go_goto (off := -459) 18 (by decide +kernel) (by decide) ?_
  exact go_as hout rfl (by rw [nI_7]) rfl
set_option maxRecDepth 100000 in
set_option maxHeartbeats 4000000 in
theorem law_step (l : Launch) (N : Nat) (hN : N ≤ 3584) (xs : Nat → Int32) (A : Nat → Nat → Int32) (G : Nat → Nat → Int64) (hE : Ex A G) (i : Nat) (hi : i ≤ N) (hout : i + 7 ≤ N → ∀ A2 G2, Ex A2 G2 → Go l (ro1 N xs) mX7_law 39 (A2, G2, PF) 18 [.ref 103, .ref 0, .ref 27, .int (nI (i + 7))] [] 39 PostL) : Go l (ro1 N xs) mX7_law 39 (A, G, PF) 18 [.ref 103, .ref 0, .ref 27, .int (nI i)] [] 39 PostL := by
  refine go_blk (pc2 := 24) (L2 := [.ref 103, .ref 0, .ref 27, .int (nI i)]) (st2 := [.int (nI N - 7), .int (nI i)]) (M2 := (A, G, PF)) (hs2 := []) (C := True) [(.iload_n 3, 0, 0), (.aload_n 0, 0, 0), (.arraylength, 0, 0), (.bipush 7, 0, 0), (.isub, 0, 0)] [] (by decide +kernel) rfl trivial ?_
  refine go_cmp (cnd := .gt) (off := 456) 480 (by decide +kernel) (by decide) (fun _ => ?_) (fun (c1 : ¬ (nI N - 7) < nI i) => ?_)
  · refine go_blk (pc2 := 481) (L2 := [.ref 103, .ref 0, .ref 27, .int (nI i)]) (st2 := [.int 1]) (M2 := (A, G, PF)) (hs2 := []) (C := True) [(.iconst 1, 0, 0)] [] (by decide +kernel) rfl trivial ?_
    exact go_retz (by decide +kernel) rfl (Or.inr rfl) rfl
  · have h7 : i + 7 ≤ N := by
      exact Nat.not_lt.mp fun z => c1 ((lp_i hN hi).mpr z)
    refine go_blk (pc2 := 33) (L2 := [.ref 103, .ref 0, .ref 27, .int (nI i)]) (st2 := [.int (xs i &&& 15)]) (M2 := (A, G, PF)) (hs2 := []) (C := (nI i = nI i ∧ i < N) ∧ True) [(.aload_n 0, 0, 0), (.iload_n 3, 0, 0), (.iaload, 0, 0), (.bipush 15, 0, 0), (.iand, 0, 0)] [i] (by decide +kernel) rfl ⟨⟨rfl, by omega⟩, trivial⟩ ?_
    obtain ⟨m, hm, hx⟩ := and15 (xs i)
    rw [hx]
    obtain ⟨dm, ncl, lv, hinv⟩ := hE
    have hN2 : N < 2 ^ 31 := by omega
    rcases (show m = 0 ∨ m = 1 ∨ m = 2 ∨ m = 3 ∨ m = 4 ∨ m = 5 ∨ m = 6 ∨ m = 7 ∨ m = 8 ∨ m = 9 ∨ m = 10 ∨ m = 11 ∨ m = 12 ∨ m = 13 ∨ m = 14 ∨ m = 15 by omega) with rfl | rfl | rfl | rfl | rfl | rfl | rfl | rfl | rfl | rfl | rfl | rfl | rfl | rfl | rfl | rfl
    · exact go_tabIn (dflt := 441) (lo := 0) (hi := 10) (offs := #[59, 150, 193, 236, 249, 262, 275, 298, 321, 364, 388]) (len := 59) (off := 59) 92 (by decide +kernel) (by decide +kernel) (by decide +kernel) (by decide +kernel) (by decide) (law_0 l N hN2 xs A G dm ncl lv hinv i h7 (hout h7))
    · exact go_tabIn (dflt := 441) (lo := 0) (hi := 10) (offs := #[59, 150, 193, 236, 249, 262, 275, 298, 321, 364, 388]) (len := 59) (off := 150) 183 (by decide +kernel) (by decide +kernel) (by decide +kernel) (by decide +kernel) (by decide) (law_1 l N hN2 xs A G dm ncl lv hinv i h7 (hout h7))
    · exact go_tabIn (dflt := 441) (lo := 0) (hi := 10) (offs := #[59, 150, 193, 236, 249, 262, 275, 298, 321, 364, 388]) (len := 59) (off := 193) 226 (by decide +kernel) (by decide +kernel) (by decide +kernel) (by decide +kernel) (by decide) (law_2 l N hN2 xs A G dm ncl lv hinv i h7 (hout h7))
    · exact go_tabIn (dflt := 441) (lo := 0) (hi := 10) (offs := #[59, 150, 193, 236, 249, 262, 275, 298, 321, 364, 388]) (len := 59) (off := 236) 269 (by decide +kernel) (by decide +kernel) (by decide +kernel) (by decide +kernel) (by decide) (law_3 l N hN2 xs A G dm ncl lv hinv i h7 (hout h7))
    · exact go_tabIn (dflt := 441) (lo := 0) (hi := 10) (offs := #[59, 150, 193, 236, 249, 262, 275, 298, 321, 364, 388]) (len := 59) (off := 249) 282 (by decide +kernel) (by decide +kernel) (by decide +kernel) (by decide +kernel) (by decide) (law_4 l N hN2 xs A G dm ncl lv hinv i h7 (hout h7))
    · exact go_tabIn (dflt := 441) (lo := 0) (hi := 10) (offs := #[59, 150, 193, 236, 249, 262, 275, 298, 321, 364, 388]) (len := 59) (off := 262) 295 (by decide +kernel) (by decide +kernel) (by decide +kernel) (by decide +kernel) (by decide) (law_5 l N hN2 xs A G dm ncl lv hinv i h7 (hout h7))
    · exact go_tabIn (dflt := 441) (lo := 0) (hi := 10) (offs := #[59, 150, 193, 236, 249, 262, 275, 298, 321, 364, 388]) (len := 59) (off := 275) 308 (by decide +kernel) (by decide +kernel) (by decide +kernel) (by decide +kernel) (by decide) (law_6 l N hN2 xs A G dm ncl lv hinv i h7 (hout h7))
    · exact go_tabIn (dflt := 441) (lo := 0) (hi := 10) (offs := #[59, 150, 193, 236, 249, 262, 275, 298, 321, 364, 388]) (len := 59) (off := 298) 331 (by decide +kernel) (by decide +kernel) (by decide +kernel) (by decide +kernel) (by decide) (law_7 l N hN2 xs A G dm ncl lv hinv i h7 (hout h7))
    · exact go_tabIn (dflt := 441) (lo := 0) (hi := 10) (offs := #[59, 150, 193, 236, 249, 262, 275, 298, 321, 364, 388]) (len := 59) (off := 321) 354 (by decide +kernel) (by decide +kernel) (by decide +kernel) (by decide +kernel) (by decide) (law_8 l N hN2 xs A G dm ncl lv hinv i h7 (hout h7))
    · exact go_tabIn (dflt := 441) (lo := 0) (hi := 10) (offs := #[59, 150, 193, 236, 249, 262, 275, 298, 321, 364, 388]) (len := 59) (off := 364) 397 (by decide +kernel) (by decide +kernel) (by decide +kernel) (by decide +kernel) (by decide) (law_9 l N hN2 xs A G dm ncl lv hinv i h7 (hout h7))
    · exact go_tabIn (dflt := 441) (lo := 0) (hi := 10) (offs := #[59, 150, 193, 236, 249, 262, 275, 298, 321, 364, 388]) (len := 59) (off := 388) 421 (by decide +kernel) (by decide +kernel) (by decide +kernel) (by decide +kernel) (by decide) (law_10 l N hN2 xs A G dm ncl lv hinv i h7 (hout h7))
    · exact go_tabOut (dflt := 441) (lo := 0) (hi := 10) (offs := #[59, 150, 193, 236, 249, 262, 275, 298, 321, 364, 388]) (len := 59) 474 (by decide +kernel) (Or.inr (by decide +kernel)) (by decide) (law_no l N xs A G i (hout h7 A G ⟨dm, ncl, lv, hinv⟩))
    · exact go_tabOut (dflt := 441) (lo := 0) (hi := 10) (offs := #[59, 150, 193, 236, 249, 262, 275, 298, 321, 364, 388]) (len := 59) 474 (by decide +kernel) (Or.inr (by decide +kernel)) (by decide) (law_no l N xs A G i (hout h7 A G ⟨dm, ncl, lv, hinv⟩))
    · exact go_tabOut (dflt := 441) (lo := 0) (hi := 10) (offs := #[59, 150, 193, 236, 249, 262, 275, 298, 321, 364, 388]) (len := 59) 474 (by decide +kernel) (Or.inr (by decide +kernel)) (by decide) (law_no l N xs A G i (hout h7 A G ⟨dm, ncl, lv, hinv⟩))
    · exact go_tabOut (dflt := 441) (lo := 0) (hi := 10) (offs := #[59, 150, 193, 236, 249, 262, 275, 298, 321, 364, 388]) (len := 59) 474 (by decide +kernel) (Or.inr (by decide +kernel)) (by decide) (law_no l N xs A G i (hout h7 A G ⟨dm, ncl, lv, hinv⟩))
    · exact go_tabOut (dflt := 441) (lo := 0) (hi := 10) (offs := #[59, 150, 193, 236, 249, 262, 275, 298, 321, 364, 388]) (len := 59) 474 (by decide +kernel) (Or.inr (by decide +kernel)) (by decide) (law_no l N xs A G i (hout h7 A G ⟨dm, ncl, lv, hinv⟩))
theorem law_loop (l : Launch) (N : Nat) (hN : N ≤ 3584) (xs : Nat → Int32) : ∀ (r i : Nat) (A : Nat → Nat → Int32) (G : Nat → Nat → Int64), Ex A G → i ≤ N → N ≤ i + r → Go l (ro1 N xs) mX7_law 39 (A, G, PF) 18 [.ref 103, .ref 0, .ref 27, .int (nI i)] [] 39 PostL := by
  intro r
  induction r with
  | zero => exact fun i A G hE hi hr => law_step l N hN xs A G hE i hi fun h7 => by omega
  | succ r ih => exact fun i A G hE hi hr => law_step l N hN xs A G hE i hi fun h7 A2 G2 hE2 => ih (i + 7) A2 G2 hE2 h7 (by omega)
theorem ex_0 : Ex MA_6 MG_5 := by
  have k0 : ∀ k, k < 5 → MA_6 2 k = 0 ∧ MA_6 28 k = 0 ∧ MA_6 3 k = 0 ∧ MA_6 4 k = 0 ∧ MA_6 5 k = 0 ∧ MA_6 6 k = 0 := by decide +kernel
  have kl : ∀ k, k < 24 → MA_6 10 k = 0 ∧ MA_6 30 k = 0 := by decide +kernel
  refine ⟨0, 0, 0, ⟨⟨⟨fun k hk h3 => ?_, fun k hk => ?_, by decide +kernel, by decide, by decide +kernel, by decide⟩, fun k hk => ?_, fun k hk h3 => ?_, ⟨fun k hk hl => ?_, fun k hk hl => ?_⟩, fun p h5 h14 => ?_, fun k hk => ?_, by decide +kernel, fun k hk => ?_⟩, ?_, ⟨by decide +kernel, by decide +kernel, by decide⟩, fun j hj => by omega⟩, ?_, ?_, Or.inl ⟨by decide +kernel, by decide +kernel, by decide +kernel⟩⟩
  · rw [(k0 k hk).1] at h3
    exact absurd h3 (by decide)
  · have e := (kl k hk).1
    refine Or.inr ?_
    unfold lit
    rw [e]
    decide
  · rw [(k0 k hk).1, (k0 k hk).2.1]
  · rw [(k0 k hk).1] at h3
    exact absurd h3 (by decide)
  · unfold Lin at hl
    rw [(k0 k hk).2.1] at hl
    exact absurd hl (by decide)
  · unfold row3
    obtain ⟨-, -, e1, e2, e3, e4⟩ := k0 k hk
    rw [e1, e2, e3, e4]
  · have h : ∀ p, p < 14 → 5 ≤ p → RC MA_6 p = fx9 (fxi p) := by decide +kernel
    exact h p h14 h5
  · rw [(k0 k hk).1]
    simp
  · rw [(kl k hk).1, (kl k hk).2]
  · decide +kernel
  · exact fun z => absurd z (by decide +kernel)
  · exact fun z => absurd (show MA_6 27 6 = 0 by decide +kernel) z
set_option maxRecDepth 100000 in
set_option maxHeartbeats 4000000 in
theorem law_top (l : Launch) (N : Nat) (hN : N ≤ 3584) (xs : Nat → Int32) : Go l (ro1 N xs) mX7_law 0 (ZA, ZG, ZP) 0 [.ref 103, .null, .null, .null] [] 39 PostL := by
  refine go_new (idx := 7) (ci := 5) (p1 := 43) (p2 := 44) (p3 := 35) (by decide +kernel) (by decide +kernel) rfl (by decide) (by decide) (by decide +kernel) rfl ?_
  rw [zer_id (n := 0) (M := (ZA, ZG, ZP)) (fun _ => rfl) (fun _ => rfl) (fun _ => rfl)]
  refine go_blk (pc2 := 4) (L2 := [.ref 103, .null, .null, .null]) (st2 := [.ref 0, .ref 0]) (M2 := (ZA, ZG, ZP)) (hs2 := []) (C := True) [(.dup, 0, 0)] [] (by decide +kernel) rfl trivial ?_
  refine go_call (Y2 := mX5_init) (n2 := 27) (st := [.ref 0]) [.ref 0] [] ck_7_9 cwX5_init rfl (by decide +kernel) rfl (fun h => absurd h (by decide)) (fun _ => ⟨0, rfl, by decide, rfl⟩) (Nat.le_of_ble_eq_true rfl) (Or.inr rfl) (ro1_ro0 N xs) (s_X5_init l) (fun v M2 hp1 => ?_)
  obtain ⟨rfl, rfl⟩ := hp1
  show Go l (ro1 N xs) mX7_law 27 (MA_5, MG_5, MP_5) 7 [.ref 103, .null, .null, .null] [.ref 0] 39 _
  refine go_blk (pc2 := 8) (L2 := [.ref 103, .ref 0, .null, .null]) (st2 := []) (M2 := (MA_5, MG_5, MP_5)) (hs2 := []) (C := True) [(.astore_n 1, 0, 0)] [] (by decide +kernel) rfl trivial ?_
  refine go_new (idx := 10) (ci := 6) (p1 := 519) (p2 := 520) (p3 := 41) (by decide +kernel) (by decide +kernel) rfl (by decide) (by decide) (by decide +kernel) rfl ?_
  rw [zer_id (n := 27) (M := (MA_5, MG_5, MP_5)) (fun _ => rfl) (fun _ => rfl) (fun _ => rfl)]
  refine go_blk (pc2 := 12) (L2 := [.ref 103, .ref 0, .null, .null]) (st2 := [.ref 27, .ref 27]) (M2 := (MA_5, MG_5, MP_5)) (hs2 := []) (C := True) [(.dup, 0, 0)] [] (by decide +kernel) rfl trivial ?_
  refine go_call (Y2 := mX6_init) (n2 := 39) (st := [.ref 27]) [.ref 27] [] ck_7_12 cwX6_init rfl (by decide +kernel) rfl (fun h => absurd h (by decide)) (fun _ => ⟨27, rfl, by decide, rfl⟩) (Nat.le_of_ble_eq_true rfl) (Or.inr rfl) (ro1_ro0 N xs) (s_X6_init l) (fun v M2 hp2 => ?_)
  obtain ⟨rfl, rfl⟩ := hp2
  show Go l (ro1 N xs) mX7_law 39 (MA_6, MG_5, MP_6) 15 [.ref 103, .ref 0, .null, .null] [.ref 27] 39 _
  refine go_blk (pc2 := 18) (L2 := [.ref 103, .ref 0, .ref 27, .int 0]) (st2 := []) (M2 := (MA_6, MG_5, MP_6)) (hs2 := []) (C := True) [(.astore_n 2, 0, 0), (.iconst 0, 0, 0), (.istore_n 3, 0, 0)] [] (by decide +kernel) rfl trivial ?_
  rw [P6_PF]
  exact go_as (law_loop l N hN xs N 0 MA_6 MG_5 ex_0 (Nat.zero_le N) (by omega)) rfl (by rw [nI_0]) rfl
