/-! ===== the law's small methods; questions to a desk whose caches stand ===== -/
def ro1 (N : Nat) (xs : Nat → Int32) : RO := fun o => match o with
  | 103 => some (N, xs)
  | o => ro0 o
theorem ro1_ro0 (N : Nat) (xs : Nat → Int32) : ∀ o M f, ro0 o = some (M, f) → ro1 N xs o = some (M, f) := by
  intro o M f h
  by_cases e : o = 103
  · subst e
    cases h
  · unfold ro1
    split
    · exact absurd rfl e
    · exact h
def xc (N : Nat) (xs : Nat → Int32) (k : Nat) : Int32 := if k < N then xs k else 0
def smf (c : Int32) : Int32 := if c &&& 7 = 0 then -2 else if 4 ≤ c &&& 7 then (if 6 ≤ c &&& 7 then (if c &&& 7 = 6 then -1 else 3) else 1) else 0
theorem smf_f9 (c : Int32) : f9 (smf c) := by
  unfold smf f9
  split
  · decide
  · split
    · split
      · split <;> decide
      · decide
    · decide
theorem lg_ge2 {x y : Int64} : 0 ≤ lg_cmp x y ↔ ¬ x < y := (lg_cmp_ge x y).trans Int64.not_lt.symm
def cmpI (a b c d : Int64) : Int32 := if a * d < c * b then -1 else if c * b < a * d then 1 else 0
theorem q_world (l : Launch) {A : Nat → Nat → Int32} (G : Nat → Nat → Int64) {mm P dm ncl cnt : Nat} (hM : Mm mm P dm) (h : Std A dm ncl cnt) {s : Nat} (hs : s < P) : Sem l mX5_world [.ref 0, .int (nI s)] 27 (A, G, PF) 27 (pv (bi (Wd A dm ncl s)) (A, G, PF)) := by
  refine (s_X5_world l A G dm ncl h.1 (fun _ => ⟨cnt, h.2.1⟩) (nI s)).mono ?_
  rintro v M ⟨A2, cnt2, rfl, hC, hR, hz, rfl⟩
  have e := hz.2 h.2.2
  subst e
  have := hM.le
  refine ⟨?_, rfl⟩
  show some (Value.int (bi (∃ m, m < 32 ∧ nI s &&& nI dm = nI m ∧ Wd A2 dm ncl m))) = _
  rw [bi_c (show (∃ m, m < 32 ∧ nI s &&& nI dm = nI m ∧ Wd A2 dm ncl m) ↔ Wd A2 dm ncl s from ⟨fun ⟨m, h1, h2, h3⟩ => by rw [hM.nand hs] at h2; rw [nI_inj (by omega) (by omega) h2]; exact h3, fun z => ⟨s, by omega, hM.nand hs, z⟩⟩)]
theorem q_worlds (l : Launch) {A : Nat → Nat → Int32} (G : Nat → Nat → Int64) {dm ncl cnt : Nat} (h : Std A dm ncl cnt) : Sem l mX5_worlds [.ref 0] 27 (A, G, PF) 27 (pv (nI (cntw A dm ncl 32)) (A, G, PF)) := by
  refine (s_X5_worlds l A G dm ncl h.1 (fun _ => ⟨cnt, h.2.1⟩)).mono ?_
  rintro v M ⟨A2, cnt2, rfl, hC, hR, hz, rfl⟩
  have e := hz.2 h.2.2
  subst e
  exact ⟨rfl, rfl⟩
theorem q_holds (l : Launch) {A : Nat → Nat → Int32} (G : Nat → Nat → Int64) {dm ncl cnt m : Nat} (h : Std A dm ncl cnt) (hm : m < 10) (ht : dm.testBit (m / 2) = true) : Sem l mX5_holds [.ref 0, .int (nI m)] 27 (A, G, PF) 27 (pv (hv A dm ncl m) (A, G, PF)) := by
  refine (s_X5_holds l A G dm ncl h.1 (fun _ => ⟨cnt, h.2.1⟩) (nI m)).mono ?_
  rintro v M (⟨z, -⟩ | ⟨m2, h1, h2, h3, A2, cnt2, rfl, hC, hR, hz, rfl⟩)
  · exact absurd ((Dfd_nI hm).mpr ht) z
  · have e := hz.2 h.2.2
    subst e
    obtain rfl : m2 = m := nI_inj (by omega) (by omega) h2.symm
    exact ⟨rfl, rfl⟩
set_option maxRecDepth 100000 in
set_option maxHeartbeats 4000000 in
theorem s_X6_cell (l : Launch) (N : Nat) (hN : N < 2 ^ 31) (xs : Nat → Int32) (A : Nat → Nat → Int32) (G : Nat → Nat → Int64) (k : Nat) (hk : k < 2 ^ 31) (x : Int32) (hx : x = nI k) : SemR l (ro1 N xs) mX6_cell [.ref 103, .int x] 27 (A, G, PF) 27 (pv (xc N xs k) (A, G, PF)) := by
  refine sem_of_go (by decide) rfl (by decide) (by decide) rfl (Nat.le_of_ble_eq_true rfl) ?_
  show Go l (ro1 N xs) mX6_cell 27 (A, G, PF) 0 [.ref 103, .int x] [] 27 (pv (xc N xs k) (A, G, PF))
  refine go_blk (pc2 := 3) (L2 := [.ref 103, .int x]) (st2 := [.int (nI N), .int x]) (M2 := (A, G, PF)) (hs2 := []) (C := True) [(.iload_n 1, 0, 0), (.aload_n 0, 0, 0), (.arraylength, 0, 0)] [] (by decide +kernel) rfl trivial ?_
  refine go_cmp (cnd := .ge) (off := 9) 12 (by decide +kernel) (by decide) (fun (c1 : (nI N) ≤ x) => ?_) (fun (c1 : ¬ (nI N) ≤ x) => ?_)
  · skip
    replace c1 : N ≤ k := (nx_le (a := N) (b := k) rfl hx (by omega) (by omega)).mp c1
    refine go_blk (pc2 := 13) (L2 := [.ref 103, .int x]) (st2 := [.int 0]) (M2 := (A, G, PF)) (hs2 := []) (C := True) [(.iconst 0, 0, 0)] [] (by decide +kernel) rfl trivial ?_
    exact go_reti (by decide +kernel) rfl (pve (by unfold xc; first | exact (if_pos (by omega)).symm | exact (if_neg (by omega)).symm))
  · skip
    replace c1 : ¬ N ≤ k := fun zz => c1 ((nx_le (a := N) (b := k) rfl hx (by omega) (by omega)).mpr zz)
    refine go_blk (pc2 := 9) (L2 := [.ref 103, .int x]) (st2 := [.int (xs k)]) (M2 := (A, G, PF)) (hs2 := []) (C := (x = nI k ∧ k < N) ∧ True) [(.aload_n 0, 0, 0), (.iload_n 1, 0, 0), (.iaload, 0, 0)] [k] (by decide +kernel) rfl ⟨⟨hx, by omega⟩, trivial⟩ ?_
    refine go_goto (off := 4) 13 (by decide +kernel) (by decide) ?_
    exact go_reti (by decide +kernel) rfl (pve (by unfold xc; first | exact (if_pos (by omega)).symm | exact (if_neg (by omega)).symm))
set_option maxRecDepth 100000 in
set_option maxHeartbeats 4000000 in
theorem s_X6_small (l : Launch) (A : Nat → Nat → Int32) (G : Nat → Nat → Int64) (c : Int32) : Sem l mX6_small [.int c] 27 (A, G, PF) 27 (pv (smf c) (A, G, PF)) := by
  refine sem_of_go (by decide) rfl (by decide) (by decide) rfl (Nat.le_of_ble_eq_true rfl) ?_
  show Go l ro0 mX6_small 27 (A, G, PF) 0 [.int c] [] 27 (pv (smf c) (A, G, PF))
  refine go_blk (pc2 := 4) (L2 := [.int c]) (st2 := [.int (c &&& 7)]) (M2 := (A, G, PF)) (hs2 := []) (C := True) [(.iload_n 0, 0, 0), (.bipush 7, 0, 0), (.iand, 0, 0)] [] (by decide +kernel) rfl trivial ?_
  refine go_ifz (cnd := .ne) (off := 8) 12 (by decide +kernel) (by decide) (fun (c1 : ¬ (c &&& 7) = 0) => ?_) (fun (c1 : (c &&& 7) = 0) => ?_)
  · skip
    refine go_blk (pc2 := 17) (L2 := [.int c]) (st2 := [.int 4, .int (c &&& 7)]) (M2 := (A, G, PF)) (hs2 := []) (C := True) [(.iload_n 0, 0, 0), (.bipush 7, 0, 0), (.iand, 0, 0), (.iconst 4, 0, 0)] [] (by decide +kernel) rfl trivial ?_
    refine go_cmp (cnd := .ge) (off := 7) 24 (by decide +kernel) (by decide) (fun (c2 : 4 ≤ (c &&& 7)) => ?_) (fun (c2 : ¬ 4 ≤ (c &&& 7)) => ?_)
    · skip
      refine go_blk (pc2 := 30) (L2 := [.int c]) (st2 := [.int 6, .int (c &&& 7)]) (M2 := (A, G, PF)) (hs2 := []) (C := True) [(.iload_n 0, 0, 0), (.bipush 7, 0, 0), (.iand, 0, 0), (.bipush 6, 0, 0)] [] (by decide +kernel) rfl trivial ?_
      refine go_cmp (cnd := .ge) (off := 7) 37 (by decide +kernel) (by decide) (fun (c3 : 6 ≤ (c &&& 7)) => ?_) (fun (c3 : ¬ 6 ≤ (c &&& 7)) => ?_)
      · skip
        refine go_blk (pc2 := 43) (L2 := [.int c]) (st2 := [.int 6, .int (c &&& 7)]) (M2 := (A, G, PF)) (hs2 := []) (C := True) [(.iload_n 0, 0, 0), (.bipush 7, 0, 0), (.iand, 0, 0), (.bipush 6, 0, 0)] [] (by decide +kernel) rfl trivial ?_
        refine go_cmp (cnd := .ne) (off := 7) 50 (by decide +kernel) (by decide) (fun (c4 : ¬ (c &&& 7) = 6) => ?_) (fun (c4 : (c &&& 7) = 6) => ?_)
        · skip
          refine go_blk (pc2 := 51) (L2 := [.int c]) (st2 := [.int 3]) (M2 := (A, G, PF)) (hs2 := []) (C := True) [(.iconst 3, 0, 0)] [] (by decide +kernel) rfl trivial ?_
          exact go_reti (by decide +kernel) rfl (pve (by unfold smf; first | rw [if_pos (by assumption)] | rw [if_neg (by assumption), if_neg (by assumption)] | rw [if_neg (by assumption), if_pos (by assumption), if_neg (by assumption)] | rw [if_neg (by assumption), if_pos (by assumption), if_pos (by assumption), if_pos (by assumption)] | rw [if_neg (by assumption), if_pos (by assumption), if_pos (by assumption), if_neg (by assumption)]))
        · skip
          refine go_blk (pc2 := 47) (L2 := [.int c]) (st2 := [.int (-1)]) (M2 := (A, G, PF)) (hs2 := []) (C := True) [(.iconst (-1), 0, 0)] [] (by decide +kernel) rfl trivial ?_
          refine go_goto (off := 4) 51 (by decide +kernel) (by decide) ?_
          exact go_reti (by decide +kernel) rfl (pve (by unfold smf; first | rw [if_pos (by assumption)] | rw [if_neg (by assumption), if_neg (by assumption)] | rw [if_neg (by assumption), if_pos (by assumption), if_neg (by assumption)] | rw [if_neg (by assumption), if_pos (by assumption), if_pos (by assumption), if_pos (by assumption)] | rw [if_neg (by assumption), if_pos (by assumption), if_pos (by assumption), if_neg (by assumption)]))
      · skip
        refine go_blk (pc2 := 34) (L2 := [.int c]) (st2 := [.int 1]) (M2 := (A, G, PF)) (hs2 := []) (C := True) [(.iconst 1, 0, 0)] [] (by decide +kernel) rfl trivial ?_
        refine go_goto (off := 17) 51 (by decide +kernel) (by decide) ?_
        exact go_reti (by decide +kernel) rfl (pve (by unfold smf; first | rw [if_pos (by assumption)] | rw [if_neg (by assumption), if_neg (by assumption)] | rw [if_neg (by assumption), if_pos (by assumption), if_neg (by assumption)] | rw [if_neg (by assumption), if_pos (by assumption), if_pos (by assumption), if_pos (by assumption)] | rw [if_neg (by assumption), if_pos (by assumption), if_pos (by assumption), if_neg (by assumption)]))
    · skip
      refine go_blk (pc2 := 21) (L2 := [.int c]) (st2 := [.int 0]) (M2 := (A, G, PF)) (hs2 := []) (C := True) [(.iconst 0, 0, 0)] [] (by decide +kernel) rfl trivial ?_
      refine go_goto (off := 30) 51 (by decide +kernel) (by decide) ?_
      exact go_reti (by decide +kernel) rfl (pve (by unfold smf; first | rw [if_pos (by assumption)] | rw [if_neg (by assumption), if_neg (by assumption)] | rw [if_neg (by assumption), if_pos (by assumption), if_neg (by assumption)] | rw [if_neg (by assumption), if_pos (by assumption), if_pos (by assumption), if_pos (by assumption)] | rw [if_neg (by assumption), if_pos (by assumption), if_pos (by assumption), if_neg (by assumption)]))
  · skip
    refine go_blk (pc2 := 9) (L2 := [.int c]) (st2 := [.int (-2)]) (M2 := (A, G, PF)) (hs2 := []) (C := True) [(.bipush (-2), 0, 0)] [] (by decide +kernel) rfl trivial ?_
    refine go_goto (off := 42) 51 (by decide +kernel) (by decide) ?_
    exact go_reti (by decide +kernel) rfl (pve (by unfold smf; first | rw [if_pos (by assumption)] | rw [if_neg (by assumption), if_neg (by assumption)] | rw [if_neg (by assumption), if_pos (by assumption), if_neg (by assumption)] | rw [if_neg (by assumption), if_pos (by assumption), if_pos (by assumption), if_pos (by assumption)] | rw [if_neg (by assumption), if_pos (by assumption), if_pos (by assumption), if_neg (by assumption)]))
set_option maxRecDepth 100000 in
set_option maxHeartbeats 4000000 in
theorem lp_X6_with (l : Launch) (A : Nat → Nat → Int32) (G : Nat → Nat → Int64) (m : Nat) (hm : m < 10) : ∀ s, s ≤ 32 → Go l ro0 mX6_with 27 (A, G, PF) 4 [.int (nI m), .int (wI (fun i => HL i m) s), .int (nI s)] [] 27 (pv (wI (fun i => HL i m) 32) (A, G, PF)) := by
  refine down 32 (fun s hk ih  => ?_)
  refine go_blk (pc2 := 7) (L2 := [.int (nI m), .int (wI (fun i => HL i m) s), .int (nI s)]) (st2 := [.int 32, .int (nI s)]) (M2 := (A, G, PF)) (hs2 := []) (C := True) [(.iload_n 2, 0, 0), (.bipush 32, 0, 0)] [] (by decide +kernel) rfl trivial ?_
  refine go_cmp (cnd := .ge) (off := 30) 37 (by decide +kernel) (by decide) (fun (c1 : 32 ≤ (nI s)) => ?_) (fun (c1 : ¬ 32 ≤ (nI s)) => ?_)
  · skip
    replace c1 : 32 ≤ s := (nx_le (a := 32) (b := s) rfl rfl (by omega) (by omega)).mp c1
    refine go_blk (pc2 := 38) (L2 := [.int (nI m), .int (wI (fun i => HL i m) s), .int (nI s)]) (st2 := [.int (wI (fun i => HL i m) s)]) (M2 := (A, G, PF)) (hs2 := []) (C := True) [(.iload_n 1, 0, 0)] [] (by decide +kernel) rfl trivial ?_
    exact go_reti (by decide +kernel) rfl (pve (by rw [show s = 32 by omega]))
  · skip
    replace c1 : ¬ 32 ≤ s := fun zz => c1 ((nx_le (a := 32) (b := s) rfl rfl (by omega) (by omega)).mpr zz)
    refine go_blk (pc2 := 22) (L2 := [.int (nI m), .int (wI (fun i => HL i m) s), .int (nI s)]) (st2 := [.int (1 - ((nI m) - ((nI m) / 2) * 2)), .int (((nI s) >>> (((nI m) / 2) &&& 31)) &&& 1)]) (M2 := (A, G, PF)) (hs2 := []) (C := (¬ 2 = 0) ∧ (¬ 2 = 0) ∧ True) [(.iload_n 2, 0, 0), (.iload_n 0, 0, 0), (.iconst 2, 0, 0), (.idiv, 0, 0), (.ishr, 0, 0), (.iconst 1, 0, 0), (.iand, 0, 0), (.iconst 1, 0, 0), (.iload_n 0, 0, 0), (.iconst 2, 0, 0), (.irem, 0, 0), (.isub, 0, 0)] [] (by decide +kernel) rfl ⟨by decide, by decide, trivial⟩ ?_
    refine go_cmp (cnd := .ne) (off := 9) 31 (by decide +kernel) (by decide) (fun (c2 : ¬ (((nI s) >>> (((nI m) / 2) &&& 31)) &&& 1) = (1 - ((nI m) - ((nI m) / 2) * 2))) => ?_) (fun (c2 : (((nI s) >>> (((nI m) / 2) &&& 31)) &&& 1) = (1 - ((nI m) - ((nI m) / 2) * 2))) => ?_)
    · skip
      rw [HL_with m hm s (by omega)] at c2
      refine go_blk (pc2 := 34) (L2 := [.int (nI m), .int (wI (fun i => HL i m) s), .int ((nI s) + 1)]) (st2 := []) (M2 := (A, G, PF)) (hs2 := []) (C := True) [(.iinc 2 1, 0, 0)] [] (by decide +kernel) rfl trivial ?_
      refine go_goto (off := -30) 4 (by decide +kernel) (by decide) ?_
      exact go_as (ih (by omega) ) rfl (by first | rw [wI_t (by assumption), nI_1] | rw [wI_f (by assumption), nI_1]) rfl
    · skip
      rw [HL_with m hm s (by omega)] at c2
      refine go_blk (pc2 := 34) (L2 := [.int (nI m), .int ((wI (fun i => HL i m) s) ||| (1 <<< ((nI s) &&& 31))), .int ((nI s) + 1)]) (st2 := []) (M2 := (A, G, PF)) (hs2 := []) (C := True) [(.iload_n 1, 0, 0), (.iconst 1, 0, 0), (.iload_n 2, 0, 0), (.ishl, 0, 0), (.ior, 0, 0), (.istore_n 1, 0, 0), (.iinc 2 1, 0, 0)] [] (by decide +kernel) rfl trivial ?_
      refine go_goto (off := -30) 4 (by decide +kernel) (by decide) ?_
      exact go_as (ih (by omega) ) rfl (by first | rw [wI_t (by assumption), nI_1] | rw [wI_f (by assumption), nI_1]) rfl
set_option maxRecDepth 100000 in
set_option maxHeartbeats 4000000 in
theorem s_X6_with (l : Launch) (A : Nat → Nat → Int32) (G : Nat → Nat → Int64) (m : Nat) (hm : m < 10) : Sem l mX6_with [.int (nI m)] 27 (A, G, PF) 27 (pv (wI (fun i => HL i m) 32) (A, G, PF)) := by
  refine sem_of_go (by decide) rfl (by decide) (by decide) rfl (Nat.le_of_ble_eq_true rfl) ?_
  show Go l ro0 mX6_with 27 (A, G, PF) 0 [.int (nI m), .null, .null] [] 27 (pv (wI (fun i => HL i m) 32) (A, G, PF))
  refine go_blk (pc2 := 4) (L2 := [.int (nI m), .int 0, .int 0]) (st2 := []) (M2 := (A, G, PF)) (hs2 := []) (C := True) [(.iconst 0, 0, 0), (.istore_n 1, 0, 0), (.iconst 0, 0, 0), (.istore_n 2, 0, 0)] [] (by decide +kernel) rfl trivial ?_
  exact lp_X6_with l A G m hm 0 (by omega)
set_option maxRecDepth 100000 in
set_option maxHeartbeats 4000000 in
theorem lp_X6_bits (l : Launch) (A : Nat → Nat → Int32) (G : Nat → Nat → Int64) (x : Int32) : ∀ k, k ≤ 32 → Go l ro0 mX6_bits 27 (A, G, PF) 4 [.int x, .int (nI (pcn x k)), .int (nI k)] [] 27 (pv (nI (pcn x 32)) (A, G, PF)) := by
  refine down 32 (fun k hk ih  => ?_)
  refine go_blk (pc2 := 7) (L2 := [.int x, .int (nI (pcn x k)), .int (nI k)]) (st2 := [.int 32, .int (nI k)]) (M2 := (A, G, PF)) (hs2 := []) (C := True) [(.iload_n 2, 0, 0), (.bipush 32, 0, 0)] [] (by decide +kernel) rfl trivial ?_
  refine go_cmp (cnd := .ge) (off := 17) 24 (by decide +kernel) (by decide) (fun (c1 : 32 ≤ (nI k)) => ?_) (fun (c1 : ¬ 32 ≤ (nI k)) => ?_)
  · skip
    replace c1 : 32 ≤ k := (nx_le (a := 32) (b := k) rfl rfl (by omega) (by omega)).mp c1
    refine go_blk (pc2 := 25) (L2 := [.int x, .int (nI (pcn x k)), .int (nI k)]) (st2 := [.int (nI (pcn x k))]) (M2 := (A, G, PF)) (hs2 := []) (C := True) [(.iload_n 1, 0, 0)] [] (by decide +kernel) rfl trivial ?_
    exact go_reti (by decide +kernel) rfl (pve (by rw [show k = 32 by omega]))
  · skip
    replace c1 : ¬ 32 ≤ k := fun zz => c1 ((nx_le (a := 32) (b := k) rfl rfl (by omega) (by omega)).mpr zz)
    refine go_blk (pc2 := 21) (L2 := [.int x, .int ((nI (pcn x k)) + ((((x).toUInt32 >>> ((nI k).toUInt32 &&& Int32.toUInt32 31)).toInt32) &&& 1)), .int ((nI k) + 1)]) (st2 := []) (M2 := (A, G, PF)) (hs2 := []) (C := True) [(.iload_n 1, 0, 0), (.iload_n 0, 0, 0), (.iload_n 2, 0, 0), (.iushr, 0, 0), (.iconst 1, 0, 0), (.iand, 0, 0), (.iadd, 0, 0), (.istore_n 1, 0, 0), (.iinc 2 1, 0, 0)] [] (by decide +kernel) rfl trivial ?_
    refine go_goto (off := -17) 4 (by decide +kernel) (by decide) ?_
    exact go_as (ih (by omega) ) rfl (by rw [ushr_tb x (by omega), nI_if, nI_1]; rfl) rfl
set_option maxRecDepth 100000 in
set_option maxHeartbeats 4000000 in
theorem s_X6_bits (l : Launch) (A : Nat → Nat → Int32) (G : Nat → Nat → Int64) (x : Int32) : Sem l mX6_bits [.int x] 27 (A, G, PF) 27 (pv (nI (pcn x 32)) (A, G, PF)) := by
  refine sem_of_go (by decide) rfl (by decide) (by decide) rfl (Nat.le_of_ble_eq_true rfl) ?_
  show Go l ro0 mX6_bits 27 (A, G, PF) 0 [.int x, .null, .null] [] 27 (pv (nI (pcn x 32)) (A, G, PF))
  refine go_blk (pc2 := 4) (L2 := [.int x, .int 0, .int 0]) (st2 := []) (M2 := (A, G, PF)) (hs2 := []) (C := True) [(.iconst 0, 0, 0), (.istore_n 1, 0, 0), (.iconst 0, 0, 0), (.istore_n 2, 0, 0)] [] (by decide +kernel) rfl trivial ?_
  exact lp_X6_bits l A G x 0 (by omega)
set_option maxRecDepth 100000 in
set_option maxHeartbeats 4000000 in
theorem s_X6_compare (l : Launch) (A : Nat → Nat → Int32) (G : Nat → Nat → Int64) (a b c d : Int64) : Sem l mX6_compare [.long a, .long b, .long c, .long d] 27 (A, G, PF) 27 (pv (cmpI a b c d) (A, G, PF)) := by
  refine sem_of_go (by decide) rfl (by decide) (by decide) rfl (Nat.le_of_ble_eq_true rfl) ?_
  show Go l ro0 mX6_compare 27 (A, G, PF) 0 [.long a, .null, .long b, .null, .long c, .null, .long d, .null, .null, .null, .null, .null] [] 27 (pv (cmpI a b c d) (A, G, PF))
  refine go_blk (pc2 := 17) (L2 := [.long a, .null, .long b, .null, .long c, .null, .long d, .null, .long (a * d), .null, .long (c * b), .null]) (st2 := [.int (lg_cmp (a * d) (c * b))]) (M2 := (A, G, PF)) (hs2 := []) (C := True) [(.lload_n 0, 0, 0), (.lload 6, 0, 0), (.lmul, 0, 0), (.lstore 8, 0, 0), (.lload 4, 0, 0), (.lload_n 2, 0, 0), (.lmul, 0, 0), (.lstore 10, 0, 0), (.lload 8, 0, 0), (.lload 10, 0, 0), (.lcmp, 0, 0)] [] (by decide +kernel) rfl trivial ?_
  refine go_ifz (cnd := .ge) (off := 7) 24 (by decide +kernel) (by decide) (fun (c1 : 0 ≤ (lg_cmp (a * d) (c * b))) => ?_) (fun (c1 : ¬ 0 ≤ (lg_cmp (a * d) (c * b))) => ?_)
  · skip
    replace c1 : ¬ ((a * d) : Int64) < (c * b) := lg_ge2.mp c1
    refine go_blk (pc2 := 29) (L2 := [.long a, .null, .long b, .null, .long c, .null, .long d, .null, .long (a * d), .null, .long (c * b), .null]) (st2 := [.int (lg_cmp (a * d) (c * b))]) (M2 := (A, G, PF)) (hs2 := []) (C := True) [(.lload 8, 0, 0), (.lload 10, 0, 0), (.lcmp, 0, 0)] [] (by decide +kernel) rfl trivial ?_
    refine go_ifz (cnd := .le) (off := 7) 36 (by decide +kernel) (by decide) (fun (c2 : (lg_cmp (a * d) (c * b)) ≤ 0) => ?_) (fun (c2 : ¬ (lg_cmp (a * d) (c * b)) ≤ 0) => ?_)
    · skip
      replace c2 : ¬ ((c * b) : Int64) < (a * d) := lg_le2.mp c2
      refine go_blk (pc2 := 37) (L2 := [.long a, .null, .long b, .null, .long c, .null, .long d, .null, .long (a * d), .null, .long (c * b), .null]) (st2 := [.int 0]) (M2 := (A, G, PF)) (hs2 := []) (C := True) [(.iconst 0, 0, 0)] [] (by decide +kernel) rfl trivial ?_
      exact go_reti (by decide +kernel) rfl (pve (by unfold cmpI; first | rw [if_pos (by assumption)] | rw [if_neg (by assumption), if_pos (by assumption)] | rw [if_neg (by assumption), if_neg (by assumption)]))
    · skip
      replace c2 : ((c * b) : Int64) < (a * d) := Classical.byContradiction (fun zz => c2 (lg_le2.mpr zz))
      refine go_blk (pc2 := 33) (L2 := [.long a, .null, .long b, .null, .long c, .null, .long d, .null, .long (a * d), .null, .long (c * b), .null]) (st2 := [.int 1]) (M2 := (A, G, PF)) (hs2 := []) (C := True) [(.iconst 1, 0, 0)] [] (by decide +kernel) rfl trivial ?_
      refine go_goto (off := 4) 37 (by decide +kernel) (by decide) ?_
      exact go_reti (by decide +kernel) rfl (pve (by unfold cmpI; first | rw [if_pos (by assumption)] | rw [if_neg (by assumption), if_pos (by assumption)] | rw [if_neg (by assumption), if_neg (by assumption)]))
  · skip
    replace c1 : ((a * d) : Int64) < (c * b) := Classical.byContradiction (fun zz => c1 (lg_ge2.mpr zz))
    refine go_blk (pc2 := 21) (L2 := [.long a, .null, .long b, .null, .long c, .null, .long d, .null, .long (a * d), .null, .long (c * b), .null]) (st2 := [.int (-1)]) (M2 := (A, G, PF)) (hs2 := []) (C := True) [(.iconst (-1), 0, 0)] [] (by decide +kernel) rfl trivial ?_
    refine go_goto (off := 16) 37 (by decide +kernel) (by decide) ?_
    exact go_reti (by decide +kernel) rfl (pve (by unfold cmpI; first | rw [if_pos (by assumption)] | rw [if_neg (by assumption), if_pos (by assumption)] | rw [if_neg (by assumption), if_neg (by assumption)]))
set_option maxRecDepth 100000 in
set_option maxHeartbeats 4000000 in
theorem lp_X6_set (l : Launch) (A : Nat → Nat → Int32) (G : Nat → Nat → Int64) (mm P dm ncl cnt : Nat) (hM : Mm mm P dm) (h : Std A dm ncl cnt) (hP : P ≤ 32) : ∀ s, s ≤ P → Go l ro0 mX6_set 27 (A, G, PF) 4 [.ref 0, .int (nI mm), .int (wI (Wd A dm ncl) s), .int (nI s)] [] 27 (pv (wI (Wd A dm ncl) P) (A, G, PF)) := by
  refine down P (fun s hk ih  => ?_)
  refine go_blk (pc2 := 8) (L2 := [.ref 0, .int (nI mm), .int (wI (Wd A dm ncl) s), .int (nI s)]) (st2 := [.int (1 <<< ((nI mm) &&& 31)), .int (nI s)]) (M2 := (A, G, PF)) (hs2 := []) (C := True) [(.iload_n 3, 0, 0), (.iconst 1, 0, 0), (.iload_n 1, 0, 0), (.ishl, 0, 0)] [] (by decide +kernel) rfl trivial ?_
  refine go_cmp (cnd := .ge) (off := 23) 31 (by decide +kernel) (by decide) (fun (c1 : (1 <<< ((nI mm) &&& 31)) ≤ (nI s)) => ?_) (fun (c1 : ¬ (1 <<< ((nI mm) &&& 31)) ≤ (nI s)) => ?_)
  · skip
    replace c1 : P ≤ s := (nx_le (a := P) (b := s) hM.pw rfl (by omega) (by omega)).mp c1
    refine go_blk (pc2 := 32) (L2 := [.ref 0, .int (nI mm), .int (wI (Wd A dm ncl) s), .int (nI s)]) (st2 := [.int (wI (Wd A dm ncl) s)]) (M2 := (A, G, PF)) (hs2 := []) (C := True) [(.iload_n 2, 0, 0)] [] (by decide +kernel) rfl trivial ?_
    exact go_reti (by decide +kernel) rfl (pve (by rw [show s = P by omega]))
  · skip
    replace c1 : ¬ P ≤ s := fun zz => c1 ((nx_le (a := P) (b := s) hM.pw rfl (by omega) (by omega)).mpr zz)
    refine go_blk (pc2 := 13) (L2 := [.ref 0, .int (nI mm), .int (wI (Wd A dm ncl) s), .int (nI s)]) (st2 := [.int (nI s), .ref 0]) (M2 := (A, G, PF)) (hs2 := []) (C := True) [(.aload_n 0, 0, 0), (.iload_n 3, 0, 0)] [] (by decide +kernel) rfl trivial ?_
    refine go_call (Y2 := mX5_world) (n2 := 27) (st := []) [.ref 0] [.int (nI s)] ck_6_31 cwX5_world rfl (by decide +kernel) rfl (fun h => absurd h (by decide)) (fun _ => ⟨0, rfl, by decide, rfl⟩) (Nat.le_of_ble_eq_true rfl) (Or.inl rfl) (fun _ _ _ h => h) (q_world l G hM h (show s < P by omega)) (fun v M2 hp2 => ?_)
    obtain ⟨rfl, rfl⟩ := hp2
    rcases Classical.em (Wd A dm ncl s) with hb3 | hb3
    · rw [bi_t hb3]
      show Go l ro0 mX6_set 27 (A, G, PF) 16 [.ref 0, .int (nI mm), .int (wI (Wd A dm ncl) s), .int (nI s)] [.int 1] 27 _
      refine go_ifz (cnd := .eq) (off := 9) 25 (by decide +kernel) (by decide) (fun (h : (1 : Int32) = 0) => absurd h (by decide)) (fun _ => ?_)
      refine go_blk (pc2 := 28) (L2 := [.ref 0, .int (nI mm), .int ((wI (Wd A dm ncl) s) ||| (1 <<< ((nI s) &&& 31))), .int ((nI s) + 1)]) (st2 := []) (M2 := (A, G, PF)) (hs2 := []) (C := True) [(.iload_n 2, 0, 0), (.iconst 1, 0, 0), (.iload_n 3, 0, 0), (.ishl, 0, 0), (.ior, 0, 0), (.istore_n 2, 0, 0), (.iinc 3 1, 0, 0)] [] (by decide +kernel) rfl trivial ?_
      refine go_goto (off := -24) 4 (by decide +kernel) (by decide) ?_
      exact go_as (ih (by omega) ) rfl (by first | rw [wI_t (by assumption), nI_1] | rw [wI_f (by assumption), nI_1]) rfl
    · rw [bi_f hb3]
      show Go l ro0 mX6_set 27 (A, G, PF) 16 [.ref 0, .int (nI mm), .int (wI (Wd A dm ncl) s), .int (nI s)] [.int 0] 27 _
      refine go_ifz (cnd := .eq) (off := 9) 25 (by decide +kernel) (by decide) (fun _ => ?_) (fun (h : ¬ (0 : Int32) = 0) => absurd h (by decide))
      refine go_blk (pc2 := 28) (L2 := [.ref 0, .int (nI mm), .int (wI (Wd A dm ncl) s), .int ((nI s) + 1)]) (st2 := []) (M2 := (A, G, PF)) (hs2 := []) (C := True) [(.iinc 3 1, 0, 0)] [] (by decide +kernel) rfl trivial ?_
      refine go_goto (off := -24) 4 (by decide +kernel) (by decide) ?_
      exact go_as (ih (by omega) ) rfl (by first | rw [wI_t (by assumption), nI_1] | rw [wI_f (by assumption), nI_1]) rfl
set_option maxRecDepth 100000 in
set_option maxHeartbeats 4000000 in
theorem s_X6_set (l : Launch) (A : Nat → Nat → Int32) (G : Nat → Nat → Int64) (mm P dm ncl cnt : Nat) (hM : Mm mm P dm) (h : Std A dm ncl cnt) : Sem l mX6_set [.ref 0, .int (nI mm)] 27 (A, G, PF) 27 (pv (wI (Wd A dm ncl) 32) (A, G, PF)) := by
  refine sem_of_go (by decide) rfl (by decide) (by decide) rfl (Nat.le_of_ble_eq_true rfl) ?_
  show Go l ro0 mX6_set 27 (A, G, PF) 0 [.ref 0, .int (nI mm), .null, .null] [] 27 (pv (wI (Wd A dm ncl) 32) (A, G, PF))
  refine go_blk (pc2 := 4) (L2 := [.ref 0, .int (nI mm), .int 0, .int 0]) (st2 := []) (M2 := (A, G, PF)) (hs2 := []) (C := True) [(.iconst 0, 0, 0), (.istore_n 2, 0, 0), (.iconst 0, 0, 0), (.istore_n 3, 0, 0)] [] (by decide +kernel) rfl trivial ?_
  rw [← hM.wI A ncl]
  exact lp_X6_set l A G mm P dm ncl cnt hM h hM.le.1 0 (by omega)
