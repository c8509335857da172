/-! ===== defining the atoms, adding the clauses, reading them off ===== -/
def Ati (A : Nat → Nat → Int32) (dm : Nat) : Prop := FOk A ∧ LitOk A ∧ A 1 7 = nI dm ∧ A 9 2 = 0 ∧ A 9 3 = 0 ∧ (∀ k, k < 5 → Nrm (row3 A k)) ∧ Fixp A ∧ ¬ A 0 5 = 0
theorem dm_or : ∀ dm, dm < 32 → ∀ kk, kk < 5 → nI dm ||| (1 <<< (nI kk &&& 31)) = nI (dm ||| 2 ^ kk) ∧ dm ||| 2 ^ kk < 32 := by decide +kernel
theorem dm_up : ∀ k, k < 5 → (2 ^ k - 1) ||| 2 ^ k = 2 ^ (k + 1) - 1 ∧ 2 ^ k - 1 < 32 := by decide +kernel
theorem nI_cl3 : ∀ i : Nat, i < 3 → (nI i).toNatClampNeg = i := by decide +kernel
theorem Ati.def {A B : Nat → Nat → Int32} {dm kk : Nat} (h : Ati A dm) (hd : dm < 32) (hkk : kk < 5)
    (hrow : ∀ o, o = 9 ∨ o = 10 → B o = A o) (hpl : ∀ p, RC B p = RC A p)
    (hne : ∀ k, k ≠ kk → B 2 k = A 2 k ∧ row3 B k = row3 A k ∧ B 7 k = A 7 k ∧ B 8 k = A 8 k)
    (h17 : B 1 7 = A 1 7 ||| (1 <<< (nI kk &&& 31))) (hn : Nrm (row3 B kk)) (hf : B 2 kk = 3 → ∃ i j, i < 3 ∧ j < 3 ∧ B 7 kk = nI i ∧ B 8 kk = nI j) (hs : ¬ B 0 5 = 0) : Ati B (dm ||| 2 ^ kk) := by
  obtain ⟨f1, f2, f3, f4, f5, f6, f7, f8⟩ := h
  refine ⟨fun k hk q3 => ?_, ?_, by rw [h17, f3, (dm_or dm hd kk hkk).1], by rw [hrow 9 (Or.inl rfl)]; exact f4, by rw [hrow 9 (Or.inl rfl)]; exact f5, fun k hk => ?_, fun p q1 q2 => by rw [hpl]; exact f7 p q1 q2, hs⟩
  · by_cases e : k = kk
    · subst e
      obtain ⟨i, j, z1, z2, z3, z4⟩ := hf q3
      unfold fi fj
      rw [z3, z4, nI_cl3 i z1, nI_cl3 j z2]
      exact ⟨⟨z1, rfl⟩, z2, rfl⟩
    · obtain ⟨a1, -, a5, a6⟩ := hne k e
      unfold fi fj
      rw [a5, a6]
      exact f1 k hk (a1.symm.trans q3)
  · simpa only [LitOk, lit, hrow 10 (Or.inr rfl)] using f2
  · by_cases e : k = kk
    · subst e
      exact hn
    · rw [(hne k e).2.1]
      exact f6 k hk
theorem Ati.lin {A : Nat → Nat → Int32} {dm kk : Nat} (h : Ati A dm) (hd : dm < 32) (hkk : kk < 5) {a b c d : Int32} (e : Int32) (hf : f9 a ∧ f9 b ∧ f9 c) : Ati (u2 (dlin A kk a b c d e) 0 5 1) (dm ||| 2 ^ kk) := by
  refine h.def hd hkk (fun o ho => ?_) (fun p => ?_) (fun k hk => ?_) ?_ ?_ (fun z => ?_) ?_
  · unfold dlin
    rcases ho with rfl | rfl <;> simp [u2_row]
  · unfold RC dlin
    simp [u2_row]
  · unfold row3 dlin
    simp [u2, hk]
  · unfold dlin
    simp [u2]
  · unfold row3 dlin
    have e3 : Nrm (a, b, c, d) := hf
    simpa [u2] using e3
  · exfalso
    revert z
    unfold dlin
    simp only [u2]
    by_cases q : e = 0 <;> simp [q]
  · simp [u2]
theorem Ati.fac {A : Nat → Nat → Int32} {dm kk i j : Nat} (h : Ati A dm) (hd : dm < 32) (hkk : kk < 5) (hi : i < 3) (hj : j < 3) : Ati (u2 (dfac A kk (nI i) (nI j)) 0 5 1) (dm ||| 2 ^ kk) := by
  refine h.def hd hkk (fun o ho => ?_) (fun p => ?_) (fun k hk => ?_) ?_ ?_ (fun z => ⟨i, j, hi, hj, ?_, ?_⟩) ?_
  · unfold dfac
    rcases ho with rfl | rfl <;> simp [u2_row]
  · unfold RC dfac
    simp [u2_row]
  · unfold row3 dfac
    simp [u2, hk]
  · unfold dfac
    simp [u2]
  · unfold row3 dfac
    have e3 : Nrm ((0 : Int32), (0 : Int32), (0 : Int32), (0 : Int32)) := ⟨⟨by decide, by decide⟩, ⟨by decide, by decide⟩, ⟨by decide, by decide⟩⟩
    simpa [u2] using e3
  · unfold dfac
    simp [u2]
  · unfold dfac
    simp [u2]
  · simp [u2]
theorem andk (x : Int32) (n : Nat) (hn : n < 2 ^ 31) : ∃ j, j ≤ n ∧ x &&& nI n = nI j := by
  refine ⟨(x &&& nI n).toBitVec.toNat, ?_, ?_⟩
  · have h1 : (x &&& nI n).toBitVec.toNat = x.toBitVec.toNat &&& (nI n).toBitVec.toNat := by simp
    rw [h1, pk_tn (by omega)]
    exact Nat.and_le_right
  · apply Int32.toBitVec_inj.mp
    apply BitVec.eq_of_toNat_eq
    have h1 : (x &&& nI n).toBitVec.toNat < 2 ^ 32 := (x &&& nI n).toBitVec.isLt
    have h2 : (x &&& nI n).toBitVec.toNat ≤ n := by
      have h1 : (x &&& nI n).toBitVec.toNat = x.toBitVec.toNat &&& (nI n).toBitVec.toNat := by simp
      rw [h1, pk_tn (by omega)]
      exact Nat.and_le_right
    rw [pk_tn (by omega)]
theorem and3 (x : Int32) : ∃ j, j < 4 ∧ x &&& 3 = nI j := by
  obtain ⟨j, h1, h2⟩ := andk x 3 (by decide)
  exact ⟨j, by omega, h2⟩
theorem rem3 (x : Int32) : ∃ j, j < 3 ∧ (x &&& 3) - (x &&& 3) / 3 * 3 = nI j := by
  obtain ⟨j, h1, h2⟩ := and3 x
  rw [h2]
  have h : ∀ j, j < 4 → nI j - nI j / 3 * 3 = nI (j % 3) := by decide +kernel
  exact ⟨j % 3, by omega, h j h1⟩
theorem f99_63 (x : Int32) : f99 ((x &&& 63) - 31) := by
  obtain ⟨j, h1, h2⟩ := andk x 63 (by decide)
  rw [show x &&& 63 = nI j from h2]
  have h : ∀ j, j < 64 → (-99 ≤ nI j - 31 ∧ nI j - 31 ≤ 99) := by decide +kernel
  exact h j (by omega)
theorem n2p (j : Nat) : (2 : Int32) + nI j = nI (2 + j) := by
  show Int32.ofNat 2 + Int32.ofNat j = Int32.ofNat (2 + j)
  rw [Int32.ofNat_add]
theorem n1p (j : Nat) : (1 : Int32) + nI j = nI (1 + j) := by
  show Int32.ofNat 1 + Int32.ofNat j = Int32.ofNat (1 + j)
  rw [Int32.ofNat_add]
theorem n6p (j : Nat) : (6 : Int32) + nI j = nI (6 + j) := by
  show Int32.ofNat 6 + Int32.ofNat j = Int32.ofNat (6 + j)
  rw [Int32.ofNat_add]
theorem Mm.of : ∀ j, j < 4 → Mm (2 + j) (2 ^ (2 + j)) (2 ^ (2 + j) - 1) := by
  intro j hj
  unfold Mm
  rcases (show j = 0 ∨ j = 1 ∨ j = 2 ∨ j = 3 by omega) with rfl | rfl | rfl | rfl
  · exact Or.inl ⟨rfl, rfl, rfl⟩
  · exact Or.inr (Or.inl ⟨rfl, rfl, rfl⟩)
  · exact Or.inr (Or.inr (Or.inl ⟨rfl, rfl, rfl⟩))
  · exact Or.inr (Or.inr (Or.inr ⟨rfl, rfl, rfl⟩))
theorem kI5 : ∀ k, k < 5 → (0 : Int32) ≤ nI k ∧ nI k < 5 := by decide +kernel
theorem kI3 : ∀ k, k < 3 → (0 : Int32) ≤ nI k ∧ nI k < 3 := by decide +kernel
theorem q_lin (l : Launch) (A : Nat → Nat → Int32) (G : Nat → Nat → Int64) {kk : Nat} (hkk : kk < 5) {a b c d : Int32} (e : Int32) (hf : f9 a ∧ f9 b ∧ f9 c) (hd : f99 d) {x : Int32} (hx : x = nI kk) : Sem l mX5_linear [.ref 0, .int x, .int a, .int b, .int c, .int d, .int e] 27 (A, G, PF) 27 (pv 1 (u2 (dlin A kk a b c d e) 0 5 1, G, PF)) := by
  subst hx
  refine (s_X5_linear l A G (nI kk) a b c d e).mono ?_
  rintro v M (⟨-, k2, h1, h2, rfl, rfl⟩ | ⟨z, -⟩)
  · obtain rfl : k2 = kk := nI_inj (by omega) (by omega) h2.symm
    exact ⟨rfl, rfl⟩
  · exact absurd ⟨kI5 kk hkk, hf, hd⟩ z
theorem q_fac (l : Launch) (A : Nat → Nat → Int32) (G : Nat → Nat → Int64) {kk i j : Nat} (hkk : kk < 5) (hi : i < 3) (hj : j < 3) {x y z : Int32} (hx : x = nI kk) (hy : y = nI i) (hz : z = nI j) : Sem l mX5_fact [.ref 0, .int x, .int y, .int z] 27 (A, G, PF) 27 (pv 1 (u2 (dfac A kk (nI i) (nI j)) 0 5 1, G, PF)) := by
  subst hx; subst hy; subst hz
  refine (s_X5_fact l A G (nI kk) (nI i) (nI j)).mono ?_
  rintro v M (⟨-, k2, h1, h2, rfl, rfl⟩ | ⟨z, -⟩)
  · obtain rfl : k2 = kk := nI_inj (by omega) (by omega) h2.symm
    exact ⟨rfl, rfl⟩
  · exact absurd ⟨kI5 kk hkk, kI3 i hi, kI3 j hj⟩ z
set_option maxRecDepth 100000 in
set_option maxHeartbeats 4000000 in
theorem lp_X6_atoms (l : Launch) (N : Nat) (hN : N < 2 ^ 31) (xs : Nat → Int32) (G : Nat → Nat → Int64) (n : Nat) (hn : n < 4) (y : Int32) (hy : y = nI (2 + n)) : ∀ k, k ≤ 2 + n → ∀ A, Ati A (2 ^ k - 1) → ∀ g : Int32, g = 1 → ∀ j5 : Value, Go l (ro1 N xs) mX6_atoms 27 (A, G, PF) 22 [.ref 0, .ref 103, .int y, .int g, .int (nI k), j5] [] 27 (fun r M2 => ∃ mm P dm A2, Mm mm P dm ∧ r = some (.int (nI mm)) ∧ M2 = (A2, G, PF) ∧ Ati A2 dm) := by
  refine down (2 + n) (fun k hk ih A hA g hg j5 => ?_)
  refine go_blk (pc2 := 25) (L2 := [.ref 0, .ref 103, .int y, .int g, .int (nI k), j5]) (st2 := [.int y, .int (nI k)]) (M2 := (A, G, PF)) (hs2 := []) (C := True) [(.iload 4, 0, 0), (.iload_n 2, 0, 0)] [] (by decide +kernel) rfl trivial ?_
  refine go_cmp (cnd := .ge) (off := 112) 137 (by decide +kernel) (by decide) (fun (c1 : y ≤ (nI k)) => ?_) (fun (c1 : ¬ y ≤ (nI k)) => ?_)
  · skip
    replace c1 : (2 + n) ≤ k := (nx_le (a := (2 + n)) (b := k) hy rfl (by omega) (by omega)).mp c1
    refine go_blk (pc2 := 138) (L2 := [.ref 0, .ref 103, .int y, .int g, .int (nI k), j5]) (st2 := [.int g]) (M2 := (A, G, PF)) (hs2 := []) (C := True) [(.iload_n 3, 0, 0)] [] (by decide +kernel) rfl trivial ?_
    refine go_ifz (cnd := .eq) (off := 7) 145 (by decide +kernel) (by decide) (fun (h : g = 0) => absurd h (by rw [hg]; decide)) (fun _ => ?_)
    refine go_blk (pc2 := 142) (L2 := [.ref 0, .ref 103, .int y, .int g, .int (nI k), j5]) (st2 := [.int y]) (M2 := (A, G, PF)) (hs2 := []) (C := True) [(.iload_n 2, 0, 0)] [] (by decide +kernel) rfl trivial ?_
    refine go_goto (off := 4) 146 (by decide +kernel) (by decide) ?_
    exact go_reti (by decide +kernel) rfl (⟨2 + n, _, _, A, Mm.of n hn, by rw [hy], rfl, by rw [show 2 + n = k by omega]; exact hA⟩)
  · skip
    replace c1 : ¬ (2 + n) ≤ k := fun zz => c1 ((nx_le (a := (2 + n)) (b := k) hy rfl (by omega) (by omega)).mpr zz)
    refine go_blk (pc2 := 33) (L2 := [.ref 0, .ref 103, .int y, .int g, .int (nI k), j5]) (st2 := [.int (1 + (nI k)), .ref 103]) (M2 := (A, G, PF)) (hs2 := []) (C := True) [(.aload_n 1, 0, 0), (.iconst 1, 0, 0), (.iload 4, 0, 0), (.iadd, 0, 0)] [] (by decide +kernel) rfl trivial ?_
    refine go_call (Y2 := mX6_cell) (n2 := 27) (st := []) [] [.ref 103, .int (1 + (nI k))] ck_6_7 cwX6_cell rfl (by decide +kernel) rfl (fun _ => rfl) (fun h => absurd rfl h) (Nat.le_of_ble_eq_true rfl) (Or.inl rfl) (fun _ _ _ h => h) (s_X6_cell l N hN xs A G (1 + k) (by omega) (1 + (nI k)) (n1p k)) (fun v M2 hp2 => ?_)
    obtain ⟨rfl, rfl⟩ := hp2
    obtain ⟨i, hi, ei⟩ := rem3 (xc N xs (1 + k) >>> (2 &&& 31))
    obtain ⟨j, hj, ej⟩ := rem3 (xc N xs (1 + k) >>> (4 &&& 31))
    show Go l (ro1 N xs) mX6_atoms 27 (A, G, PF) 36 [.ref 0, .ref 103, .int y, .int g, .int (nI k), j5] [.int (xc N xs (1 + k))] 27 _
    refine go_blk (pc2 := 42) (L2 := [.ref 0, .ref 103, .int y, .int g, .int (nI k), .int (xc N xs (1 + k))]) (st2 := [.int ((xc N xs (1 + k)) &&& 3)]) (M2 := (A, G, PF)) (hs2 := []) (C := True) [(.istore 5, 0, 0), (.iload 5, 0, 0), (.iconst 3, 0, 0), (.iand, 0, 0)] [] (by decide +kernel) rfl trivial ?_
    refine go_ifz (cnd := .ne) (off := 31) 73 (by decide +kernel) (by decide) (fun (c3 : ¬ ((xc N xs (1 + k)) &&& 3) = 0) => ?_) (fun (c3 : ((xc N xs (1 + k)) &&& 3) = 0) => ?_)
    · skip
      refine go_blk (pc2 := 81) (L2 := [.ref 0, .ref 103, .int y, .int g, .int (nI k), .int (xc N xs (1 + k))]) (st2 := [.int ((xc N xs (1 + k)) >>> (3 &&& 31)), .int (nI k), .ref 0, .int g]) (M2 := (A, G, PF)) (hs2 := []) (C := True) [(.iload_n 3, 0, 0), (.aload_n 0, 0, 0), (.iload 4, 0, 0), (.iload 5, 0, 0), (.iconst 3, 0, 0), (.ishr, 0, 0)] [] (by decide +kernel) rfl trivial ?_
      refine go_call (Y2 := mX6_small) (n2 := 27) (st := [.int (nI k), .ref 0, .int g]) [] [.int ((xc N xs (1 + k)) >>> (3 &&& 31))] ck_6_19 cwX6_small rfl (by decide +kernel) rfl (fun _ => rfl) (fun h => absurd rfl h) (Nat.le_of_ble_eq_true rfl) (Or.inl rfl) (ro1_ro0 N xs) (s_X6_small l A G ((xc N xs (1 + k)) >>> (3 &&& 31))) (fun v M2 hp4 => ?_)
      obtain ⟨rfl, rfl⟩ := hp4
      show Go l (ro1 N xs) mX6_atoms 27 (A, G, PF) 84 [.ref 0, .ref 103, .int y, .int g, .int (nI k), .int (xc N xs (1 + k))] [.int (smf ((xc N xs (1 + k)) >>> (3 &&& 31))), .int (nI k), .ref 0, .int g] 27 _
      refine go_blk (pc2 := 89) (L2 := [.ref 0, .ref 103, .int y, .int g, .int (nI k), .int (xc N xs (1 + k))]) (st2 := [.int ((xc N xs (1 + k)) >>> (6 &&& 31)), .int (smf ((xc N xs (1 + k)) >>> (3 &&& 31))), .int (nI k), .ref 0, .int g]) (M2 := (A, G, PF)) (hs2 := []) (C := True) [(.iload 5, 0, 0), (.bipush 6, 0, 0), (.ishr, 0, 0)] [] (by decide +kernel) rfl trivial ?_
      refine go_call (Y2 := mX6_small) (n2 := 27) (st := [.int (smf ((xc N xs (1 + k)) >>> (3 &&& 31))), .int (nI k), .ref 0, .int g]) [] [.int ((xc N xs (1 + k)) >>> (6 &&& 31))] ck_6_19 cwX6_small rfl (by decide +kernel) rfl (fun _ => rfl) (fun h => absurd rfl h) (Nat.le_of_ble_eq_true rfl) (Or.inl rfl) (ro1_ro0 N xs) (s_X6_small l A G ((xc N xs (1 + k)) >>> (6 &&& 31))) (fun v M2 hp5 => ?_)
      obtain ⟨rfl, rfl⟩ := hp5
      show Go l (ro1 N xs) mX6_atoms 27 (A, G, PF) 92 [.ref 0, .ref 103, .int y, .int g, .int (nI k), .int (xc N xs (1 + k))] [.int (smf ((xc N xs (1 + k)) >>> (6 &&& 31))), .int (smf ((xc N xs (1 + k)) >>> (3 &&& 31))), .int (nI k), .ref 0, .int g] 27 _
      refine go_blk (pc2 := 97) (L2 := [.ref 0, .ref 103, .int y, .int g, .int (nI k), .int (xc N xs (1 + k))]) (st2 := [.int ((xc N xs (1 + k)) >>> (9 &&& 31)), .int (smf ((xc N xs (1 + k)) >>> (6 &&& 31))), .int (smf ((xc N xs (1 + k)) >>> (3 &&& 31))), .int (nI k), .ref 0, .int g]) (M2 := (A, G, PF)) (hs2 := []) (C := True) [(.iload 5, 0, 0), (.bipush 9, 0, 0), (.ishr, 0, 0)] [] (by decide +kernel) rfl trivial ?_
      refine go_call (Y2 := mX6_small) (n2 := 27) (st := [.int (smf ((xc N xs (1 + k)) >>> (6 &&& 31))), .int (smf ((xc N xs (1 + k)) >>> (3 &&& 31))), .int (nI k), .ref 0, .int g]) [] [.int ((xc N xs (1 + k)) >>> (9 &&& 31))] ck_6_19 cwX6_small rfl (by decide +kernel) rfl (fun _ => rfl) (fun h => absurd rfl h) (Nat.le_of_ble_eq_true rfl) (Or.inl rfl) (ro1_ro0 N xs) (s_X6_small l A G ((xc N xs (1 + k)) >>> (9 &&& 31))) (fun v M2 hp6 => ?_)
      obtain ⟨rfl, rfl⟩ := hp6
      show Go l (ro1 N xs) mX6_atoms 27 (A, G, PF) 100 [.ref 0, .ref 103, .int y, .int g, .int (nI k), .int (xc N xs (1 + k))] [.int (smf ((xc N xs (1 + k)) >>> (9 &&& 31))), .int (smf ((xc N xs (1 + k)) >>> (6 &&& 31))), .int (smf ((xc N xs (1 + k)) >>> (3 &&& 31))), .int (nI k), .ref 0, .int g] 27 _
      refine go_blk (pc2 := 118) (L2 := [.ref 0, .ref 103, .int y, .int g, .int (nI k), .int (xc N xs (1 + k))]) (st2 := [.int (((xc N xs (1 + k)) >>> (18 &&& 31)) &&& 1), .int ((((xc N xs (1 + k)) >>> (12 &&& 31)) &&& 63) - 31), .int (smf ((xc N xs (1 + k)) >>> (9 &&& 31))), .int (smf ((xc N xs (1 + k)) >>> (6 &&& 31))), .int (smf ((xc N xs (1 + k)) >>> (3 &&& 31))), .int (nI k), .ref 0, .int g]) (M2 := (A, G, PF)) (hs2 := []) (C := True) [(.iload 5, 0, 0), (.bipush 12, 0, 0), (.ishr, 0, 0), (.bipush 63, 0, 0), (.iand, 0, 0), (.bipush 31, 0, 0), (.isub, 0, 0), (.iload 5, 0, 0), (.bipush 18, 0, 0), (.ishr, 0, 0), (.iconst 1, 0, 0), (.iand, 0, 0)] [] (by decide +kernel) rfl trivial ?_
      refine go_ifz (cnd := .eq) (off := 7) 125 (by decide +kernel) (by decide) (fun (c7 : (((xc N xs (1 + k)) >>> (18 &&& 31)) &&& 1) = 0) => ?_) (fun (c7 : ¬ (((xc N xs (1 + k)) >>> (18 &&& 31)) &&& 1) = 0) => ?_)
      · skip
        refine go_blk (pc2 := 126) (L2 := [.ref 0, .ref 103, .int y, .int g, .int (nI k), .int (xc N xs (1 + k))]) (st2 := [.int 0, .int ((((xc N xs (1 + k)) >>> (12 &&& 31)) &&& 63) - 31), .int (smf ((xc N xs (1 + k)) >>> (9 &&& 31))), .int (smf ((xc N xs (1 + k)) >>> (6 &&& 31))), .int (smf ((xc N xs (1 + k)) >>> (3 &&& 31))), .int (nI k), .ref 0, .int g]) (M2 := (A, G, PF)) (hs2 := []) (C := True) [(.iconst 0, 0, 0)] [] (by decide +kernel) rfl trivial ?_
        refine go_call (Y2 := mX5_linear) (n2 := 27) (st := [.int g]) [.ref 0] [.int (nI k), .int (smf ((xc N xs (1 + k)) >>> (3 &&& 31))), .int (smf ((xc N xs (1 + k)) >>> (6 &&& 31))), .int (smf ((xc N xs (1 + k)) >>> (9 &&& 31))), .int ((((xc N xs (1 + k)) >>> (12 &&& 31)) &&& 63) - 31), .int 0] ck_6_23 cwX5_linear rfl (by decide +kernel) rfl (fun h => absurd h (by decide)) (fun _ => ⟨0, rfl, by decide, rfl⟩) (Nat.le_of_ble_eq_true rfl) (Or.inl rfl) (ro1_ro0 N xs) (q_lin l A G (kk := k) (by omega) 0 ⟨smf_f9 _, smf_f9 _, smf_f9 _⟩ (f99_63 _) rfl) (fun v M2 hp8 => ?_)
        obtain ⟨rfl, rfl⟩ := hp8
        show Go l (ro1 N xs) mX6_atoms 27 ((u2 (dlin A k (smf ((xc N xs (1 + k)) >>> (3 &&& 31))) (smf ((xc N xs (1 + k)) >>> (6 &&& 31))) (smf ((xc N xs (1 + k)) >>> (9 &&& 31))) ((((xc N xs (1 + k)) >>> (12 &&& 31)) &&& 63) - 31) 0) 0 5 1), G, PF) 129 [.ref 0, .ref 103, .int y, .int g, .int (nI k), .int (xc N xs (1 + k))] [.int 1, .int g] 27 _
        refine go_blk (pc2 := 134) (L2 := [.ref 0, .ref 103, .int y, .int (g &&& 1), .int ((nI k) + 1), .int (xc N xs (1 + k))]) (st2 := []) (M2 := ((u2 (dlin A k (smf ((xc N xs (1 + k)) >>> (3 &&& 31))) (smf ((xc N xs (1 + k)) >>> (6 &&& 31))) (smf ((xc N xs (1 + k)) >>> (9 &&& 31))) ((((xc N xs (1 + k)) >>> (12 &&& 31)) &&& 63) - 31) 0) 0 5 1), G, PF)) (hs2 := []) (C := True) [(.iand, 0, 0), (.istore_n 3, 0, 0), (.iinc 4 1, 0, 0)] [] (by decide +kernel) rfl trivial ?_
        refine go_goto (off := -112) 22 (by decide +kernel) (by decide) ?_
        exact go_as (ih (by omega) (u2 (dlin A k (smf ((xc N xs (1 + k)) >>> (3 &&& 31))) (smf ((xc N xs (1 + k)) >>> (6 &&& 31))) (smf ((xc N xs (1 + k)) >>> (9 &&& 31))) ((((xc N xs (1 + k)) >>> (12 &&& 31)) &&& 63) - 31) 0) 0 5 1) (by rw [← (dm_up k (by omega)).1]; exact hA.lin (dm_up k (by omega)).2 (by omega) _ ⟨smf_f9 _, smf_f9 _, smf_f9 _⟩) (g &&& 1) (by rw [hg]; rfl) (.int (xc N xs (1 + k)))) rfl (by simp only [nI_1]) rfl
      · skip
        refine go_blk (pc2 := 122) (L2 := [.ref 0, .ref 103, .int y, .int g, .int (nI k), .int (xc N xs (1 + k))]) (st2 := [.int 1, .int ((((xc N xs (1 + k)) >>> (12 &&& 31)) &&& 63) - 31), .int (smf ((xc N xs (1 + k)) >>> (9 &&& 31))), .int (smf ((xc N xs (1 + k)) >>> (6 &&& 31))), .int (smf ((xc N xs (1 + k)) >>> (3 &&& 31))), .int (nI k), .ref 0, .int g]) (M2 := (A, G, PF)) (hs2 := []) (C := True) [(.iconst 1, 0, 0)] [] (by decide +kernel) rfl trivial ?_
        refine go_goto (off := 4) 126 (by decide +kernel) (by decide) ?_
        refine go_call (Y2 := mX5_linear) (n2 := 27) (st := [.int g]) [.ref 0] [.int (nI k), .int (smf ((xc N xs (1 + k)) >>> (3 &&& 31))), .int (smf ((xc N xs (1 + k)) >>> (6 &&& 31))), .int (smf ((xc N xs (1 + k)) >>> (9 &&& 31))), .int ((((xc N xs (1 + k)) >>> (12 &&& 31)) &&& 63) - 31), .int 1] ck_6_23 cwX5_linear rfl (by decide +kernel) rfl (fun h => absurd h (by decide)) (fun _ => ⟨0, rfl, by decide, rfl⟩) (Nat.le_of_ble_eq_true rfl) (Or.inl rfl) (ro1_ro0 N xs) (q_lin l A G (kk := k) (by omega) 1 ⟨smf_f9 _, smf_f9 _, smf_f9 _⟩ (f99_63 _) rfl) (fun v M2 hp9 => ?_)
        obtain ⟨rfl, rfl⟩ := hp9
        show Go l (ro1 N xs) mX6_atoms 27 ((u2 (dlin A k (smf ((xc N xs (1 + k)) >>> (3 &&& 31))) (smf ((xc N xs (1 + k)) >>> (6 &&& 31))) (smf ((xc N xs (1 + k)) >>> (9 &&& 31))) ((((xc N xs (1 + k)) >>> (12 &&& 31)) &&& 63) - 31) 1) 0 5 1), G, PF) 129 [.ref 0, .ref 103, .int y, .int g, .int (nI k), .int (xc N xs (1 + k))] [.int 1, .int g] 27 _
        refine go_blk (pc2 := 134) (L2 := [.ref 0, .ref 103, .int y, .int (g &&& 1), .int ((nI k) + 1), .int (xc N xs (1 + k))]) (st2 := []) (M2 := ((u2 (dlin A k (smf ((xc N xs (1 + k)) >>> (3 &&& 31))) (smf ((xc N xs (1 + k)) >>> (6 &&& 31))) (smf ((xc N xs (1 + k)) >>> (9 &&& 31))) ((((xc N xs (1 + k)) >>> (12 &&& 31)) &&& 63) - 31) 1) 0 5 1), G, PF)) (hs2 := []) (C := True) [(.iand, 0, 0), (.istore_n 3, 0, 0), (.iinc 4 1, 0, 0)] [] (by decide +kernel) rfl trivial ?_
        refine go_goto (off := -112) 22 (by decide +kernel) (by decide) ?_
        exact go_as (ih (by omega) (u2 (dlin A k (smf ((xc N xs (1 + k)) >>> (3 &&& 31))) (smf ((xc N xs (1 + k)) >>> (6 &&& 31))) (smf ((xc N xs (1 + k)) >>> (9 &&& 31))) ((((xc N xs (1 + k)) >>> (12 &&& 31)) &&& 63) - 31) 1) 0 5 1) (by rw [← (dm_up k (by omega)).1]; exact hA.lin (dm_up k (by omega)).2 (by omega) _ ⟨smf_f9 _, smf_f9 _, smf_f9 _⟩) (g &&& 1) (by rw [hg]; rfl) (.int (xc N xs (1 + k)))) rfl (by simp only [nI_1]) rfl
    · skip
      refine go_blk (pc2 := 65) (L2 := [.ref 0, .ref 103, .int y, .int g, .int (nI k), .int (xc N xs (1 + k))]) (st2 := [.int ((((xc N xs (1 + k)) >>> (4 &&& 31)) &&& (3 : Int32)) - ((((xc N xs (1 + k)) >>> (4 &&& 31)) &&& (3 : Int32)) / 3) * 3), .int ((((xc N xs (1 + k)) >>> (2 &&& 31)) &&& (3 : Int32)) - ((((xc N xs (1 + k)) >>> (2 &&& 31)) &&& (3 : Int32)) / 3) * 3), .int (nI k), .ref 0, .int g]) (M2 := (A, G, PF)) (hs2 := []) (C := (¬ 3 = 0) ∧ (¬ 3 = 0) ∧ True) [(.iload_n 3, 0, 0), (.aload_n 0, 0, 0), (.iload 4, 0, 0), (.iload 5, 0, 0), (.iconst 2, 0, 0), (.ishr, 0, 0), (.iconst 3, 0, 0), (.iand, 0, 0), (.iconst 3, 0, 0), (.irem, 0, 0), (.iload 5, 0, 0), (.iconst 4, 0, 0), (.ishr, 0, 0), (.iconst 3, 0, 0), (.iand, 0, 0), (.iconst 3, 0, 0), (.irem, 0, 0)] [] (by decide +kernel) rfl ⟨by decide, by decide, trivial⟩ ?_
      refine go_call (Y2 := mX5_fact) (n2 := 27) (st := [.int g]) [.ref 0] [.int (nI k), .int ((((xc N xs (1 + k)) >>> (2 &&& 31)) &&& (3 : Int32)) - ((((xc N xs (1 + k)) >>> (2 &&& 31)) &&& (3 : Int32)) / 3) * 3), .int ((((xc N xs (1 + k)) >>> (4 &&& 31)) &&& (3 : Int32)) - ((((xc N xs (1 + k)) >>> (4 &&& 31)) &&& (3 : Int32)) / 3) * 3)] ck_6_13 cwX5_fact rfl (by decide +kernel) rfl (fun h => absurd h (by decide)) (fun _ => ⟨0, rfl, by decide, rfl⟩) (Nat.le_of_ble_eq_true rfl) (Or.inl rfl) (ro1_ro0 N xs) (q_fac l A G (kk := k) (by omega) hi hj rfl ei ej) (fun v M2 hp10 => ?_)
      obtain ⟨rfl, rfl⟩ := hp10
      show Go l (ro1 N xs) mX6_atoms 27 ((u2 (dfac A k (nI i) (nI j)) 0 5 1), G, PF) 68 [.ref 0, .ref 103, .int y, .int g, .int (nI k), .int (xc N xs (1 + k))] [.int 1, .int g] 27 _
      refine go_blk (pc2 := 70) (L2 := [.ref 0, .ref 103, .int y, .int (g &&& 1), .int (nI k), .int (xc N xs (1 + k))]) (st2 := []) (M2 := ((u2 (dfac A k (nI i) (nI j)) 0 5 1), G, PF)) (hs2 := []) (C := True) [(.iand, 0, 0), (.istore_n 3, 0, 0)] [] (by decide +kernel) rfl trivial ?_
      refine go_goto (off := 61) 131 (by decide +kernel) (by decide) ?_
      refine go_blk (pc2 := 134) (L2 := [.ref 0, .ref 103, .int y, .int (g &&& 1), .int ((nI k) + 1), .int (xc N xs (1 + k))]) (st2 := []) (M2 := ((u2 (dfac A k (nI i) (nI j)) 0 5 1), G, PF)) (hs2 := []) (C := True) [(.iinc 4 1, 0, 0)] [] (by decide +kernel) rfl trivial ?_
      refine go_goto (off := -112) 22 (by decide +kernel) (by decide) ?_
      exact go_as (ih (by omega) (u2 (dfac A k (nI i) (nI j)) 0 5 1) (by rw [← (dm_up k (by omega)).1]; exact hA.fac (dm_up k (by omega)).2 (by omega) hi hj) (g &&& 1) (by rw [hg]; rfl) (.int (xc N xs (1 + k)))) rfl (by simp only [nI_1]) rfl
set_option maxRecDepth 100000 in
set_option maxHeartbeats 4000000 in
theorem s_X6_atoms (l : Launch) (N : Nat) (hN : N < 2 ^ 31) (xs : Nat → Int32) (A : Nat → Nat → Int32) (G : Nat → Nat → Int64) (hA : Ati A 0) : SemR l (ro1 N xs) mX6_atoms [.ref 0, .ref 103] 27 (A, G, PF) 27 (fun r M2 => ∃ mm P dm A2, Mm mm P dm ∧ r = some (.int (nI mm)) ∧ M2 = (A2, G, PF) ∧ Ati A2 dm) := by
  refine sem_of_go (by decide) rfl (by decide) (by decide) rfl (Nat.le_of_ble_eq_true rfl) ?_
  show Go l (ro1 N xs) mX6_atoms 27 (A, G, PF) 0 [.ref 0, .ref 103, .null, .null, .null, .null] [] 27 (fun r M2 => ∃ mm P dm A2, Mm mm P dm ∧ r = some (.int (nI mm)) ∧ M2 = (A2, G, PF) ∧ Ati A2 dm)
  refine go_blk (pc2 := 3) (L2 := [.ref 0, .ref 103, .null, .null, .null, .null]) (st2 := [.int 0, .ref 103, .int 2]) (M2 := (A, G, PF)) (hs2 := []) (C := True) [(.iconst 2, 0, 0), (.aload_n 1, 0, 0), (.iconst 0, 0, 0)] [] (by decide +kernel) rfl trivial ?_
  refine go_call (Y2 := mX6_cell) (n2 := 27) (st := [.int 2]) [] [.ref 103, .int 0] ck_6_7 cwX6_cell rfl (by decide +kernel) rfl (fun _ => rfl) (fun h => absurd rfl h) (Nat.le_of_ble_eq_true rfl) (Or.inl rfl) (fun _ _ _ h => h) (s_X6_cell l N hN xs A G 0 (by decide) 0 rfl) (fun v M2 hp1 => ?_)
  obtain ⟨rfl, rfl⟩ := hp1
  obtain ⟨n, hn, en⟩ := and3 (xc N xs 0)
  show Go l (ro1 N xs) mX6_atoms 27 (A, G, PF) 6 [.ref 0, .ref 103, .null, .null, .null, .null] [.int (xc N xs 0), .int 2] 27 _
  refine go_blk (pc2 := 10) (L2 := [.ref 0, .ref 103, .int (2 + ((xc N xs 0) &&& 3)), .null, .null, .null]) (st2 := []) (M2 := (A, G, PF)) (hs2 := []) (C := True) [(.iconst 3, 0, 0), (.iand, 0, 0), (.iadd, 0, 0), (.istore_n 2, 0, 0)] [] (by decide +kernel) rfl trivial ?_
  obtain ⟨y, ey⟩ : ∃ y : Int32, y = (2 + ((xc N xs 0) &&& 3)) := ⟨_, rfl⟩
  rw [← ey]
  refine go_blk (pc2 := 12) (L2 := [.ref 0, .ref 103, .int y, .null, .null, .null]) (st2 := [.int 5, .int y]) (M2 := (A, G, PF)) (hs2 := []) (C := True) [(.iload_n 2, 0, 0), (.iconst 5, 0, 0)] [] (by decide +kernel) rfl trivial ?_
  refine go_cmp (cnd := .le) (off := 5) 17 (by decide +kernel) (by decide) (fun _ => ?_) (fun (h : ¬ y ≤ 5) => absurd h (fun zz => zz ((nx_le (a := (2 + n)) (b := 5) (ey.trans (by rw [en]; exact n2p n)) rfl (by omega) (by omega)).mpr (by omega))))
  refine go_blk (pc2 := 22) (L2 := [.ref 0, .ref 103, .int y, .int 1, .int 0, .null]) (st2 := []) (M2 := (A, G, PF)) (hs2 := []) (C := True) [(.iconst 1, 0, 0), (.istore_n 3, 0, 0), (.iconst 0, 0, 0), (.istore 4, 0, 0)] [] (by decide +kernel) rfl trivial ?_
  exact lp_X6_atoms l N hN xs G n hn y (ey.trans (by rw [en]; exact n2p n)) 0 (by omega) A hA 1 rfl _
