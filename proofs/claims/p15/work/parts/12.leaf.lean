set_option maxRecDepth 100000 in
set_option maxHeartbeats 4000000 in
theorem s_X5_isWithin (l : Launch) (A : Nat → Nat → Int32) (G : Nat → Nat → Int64) (v b : Int32) : Sem l mX5_isWithin [.int v, .int b] 27 (A, G, PF) 27 (pv (bi (-b ≤ v ∧ v ≤ b)) (A, G, PF)) := by
  refine sem_of_go (by decide) rfl (by decide) (by decide) rfl (Nat.le_of_ble_eq_true rfl) ?_
  show Go l ro0 mX5_isWithin 27 (A, G, PF) 0 [.int v, .int b] [] 27 (pv (bi (-b ≤ v ∧ v ≤ b)) (A, G, PF))
  refine go_blk (pc2 := 3) (L2 := [.int v, .int b]) (st2 := [.int (-b), .int v]) (M2 := (A, G, PF)) (hs2 := []) (C := True) [(.iload_n 0, 0, 0), (.iload_n 1, 0, 0), (.ineg, 0, 0)] [] (by decide +kernel) rfl trivial ?_
  refine go_cmp (cnd := .lt) (off := 12) 15 (by decide +kernel) (by decide) (fun (c1 : v < (-b)) => ?_) (fun (c1 : ¬ v < (-b)) => ?_)
  · skip
    refine go_blk (pc2 := 16) (L2 := [.int v, .int b]) (st2 := [.int 0]) (M2 := (A, G, PF)) (hs2 := []) (C := True) [(.iconst 0, 0, 0)] [] (by decide +kernel) rfl trivial ?_
    exact go_retz (by decide +kernel) rfl (Or.inl rfl) (pv0 (by grind))
  · skip
    refine go_blk (pc2 := 8) (L2 := [.int v, .int b]) (st2 := [.int b, .int v]) (M2 := (A, G, PF)) (hs2 := []) (C := True) [(.iload_n 0, 0, 0), (.iload_n 1, 0, 0)] [] (by decide +kernel) rfl trivial ?_
    refine go_cmp (cnd := .gt) (off := 7) 15 (by decide +kernel) (by decide) (fun (c2 : b < v) => ?_) (fun (c2 : ¬ b < v) => ?_)
    · skip
      refine go_blk (pc2 := 16) (L2 := [.int v, .int b]) (st2 := [.int 0]) (M2 := (A, G, PF)) (hs2 := []) (C := True) [(.iconst 0, 0, 0)] [] (by decide +kernel) rfl trivial ?_
      exact go_retz (by decide +kernel) rfl (Or.inl rfl) (pv0 (by grind))
    · skip
      refine go_blk (pc2 := 12) (L2 := [.int v, .int b]) (st2 := [.int 1]) (M2 := (A, G, PF)) (hs2 := []) (C := True) [(.iconst 1, 0, 0)] [] (by decide +kernel) rfl trivial ?_
      refine go_goto (off := 4) 16 (by decide +kernel) (by decide) ?_
      exact go_retz (by decide +kernel) rfl (Or.inr rfl) (pv1 (by grind))
set_option maxRecDepth 100000 in
set_option maxHeartbeats 4000000 in
theorem s_X5_areFactors (l : Launch) (A : Nat → Nat → Int32) (G : Nat → Nat → Int64) (a b c : Int32) : Sem l mX5_areFactors [.int a, .int b, .int c] 27 (A, G, PF) 27 (pv (bi (f9 a ∧ f9 b ∧ f9 c)) (A, G, PF)) := by
  refine sem_of_go (by decide) rfl (by decide) (by decide) rfl (Nat.le_of_ble_eq_true rfl) ?_
  show Go l ro0 mX5_areFactors 27 (A, G, PF) 0 [.int a, .int b, .int c] [] 27 (pv (bi (f9 a ∧ f9 b ∧ f9 c)) (A, G, PF))
  refine go_blk (pc2 := 3) (L2 := [.int a, .int b, .int c]) (st2 := [.int 9, .int a]) (M2 := (A, G, PF)) (hs2 := []) (C := True) [(.iload_n 0, 0, 0), (.bipush 9, 0, 0)] [] (by decide +kernel) rfl trivial ?_
  refine go_call (Y2 := mX5_isWithin) (n2 := 27) (st := []) [] [.int a, .int 9] ck_5_132 cwX5_isWithin rfl (by decide +kernel) rfl (fun _ => rfl) (fun h => absurd rfl h) (Nat.le_of_ble_eq_true rfl) (Or.inl rfl) (fun _ _ _ h => h) (s_X5_isWithin l A G a 9) (fun v M2 hp1 => ?_)
  obtain ⟨rfl, rfl⟩ := hp1
  rcases Classical.em (-9 ≤ a ∧ a ≤ 9) with hb2 | hb2
  · rw [bi_t hb2]
    show Go l ro0 mX5_areFactors 27 (A, G, PF) 6 [.int a, .int b, .int c] [.int 1] 27 _
    refine go_ifz (cnd := .eq) (off := 25) 31 (by decide +kernel) (by decide) (fun (h : (1 : Int32) = 0) => absurd h (by decide)) (fun _ => ?_)
    refine go_blk (pc2 := 12) (L2 := [.int a, .int b, .int c]) (st2 := [.int 9, .int b]) (M2 := (A, G, PF)) (hs2 := []) (C := True) [(.iload_n 1, 0, 0), (.bipush 9, 0, 0)] [] (by decide +kernel) rfl trivial ?_
    refine go_call (Y2 := mX5_isWithin) (n2 := 27) (st := []) [] [.int b, .int 9] ck_5_132 cwX5_isWithin rfl (by decide +kernel) rfl (fun _ => rfl) (fun h => absurd rfl h) (Nat.le_of_ble_eq_true rfl) (Or.inl rfl) (fun _ _ _ h => h) (s_X5_isWithin l A G b 9) (fun v M2 hp3 => ?_)
    obtain ⟨rfl, rfl⟩ := hp3
    rcases Classical.em (-9 ≤ b ∧ b ≤ 9) with hb4 | hb4
    · rw [bi_t hb4]
      show Go l ro0 mX5_areFactors 27 (A, G, PF) 15 [.int a, .int b, .int c] [.int 1] 27 _
      refine go_ifz (cnd := .eq) (off := 16) 31 (by decide +kernel) (by decide) (fun (h : (1 : Int32) = 0) => absurd h (by decide)) (fun _ => ?_)
      refine go_blk (pc2 := 21) (L2 := [.int a, .int b, .int c]) (st2 := [.int 9, .int c]) (M2 := (A, G, PF)) (hs2 := []) (C := True) [(.iload_n 2, 0, 0), (.bipush 9, 0, 0)] [] (by decide +kernel) rfl trivial ?_
      refine go_call (Y2 := mX5_isWithin) (n2 := 27) (st := []) [] [.int c, .int 9] ck_5_132 cwX5_isWithin rfl (by decide +kernel) rfl (fun _ => rfl) (fun h => absurd rfl h) (Nat.le_of_ble_eq_true rfl) (Or.inl rfl) (fun _ _ _ h => h) (s_X5_isWithin l A G c 9) (fun v M2 hp5 => ?_)
      obtain ⟨rfl, rfl⟩ := hp5
      rcases Classical.em (-9 ≤ c ∧ c ≤ 9) with hb6 | hb6
      · rw [bi_t hb6]
        show Go l ro0 mX5_areFactors 27 (A, G, PF) 24 [.int a, .int b, .int c] [.int 1] 27 _
        refine go_ifz (cnd := .eq) (off := 7) 31 (by decide +kernel) (by decide) (fun (h : (1 : Int32) = 0) => absurd h (by decide)) (fun _ => ?_)
        refine go_blk (pc2 := 28) (L2 := [.int a, .int b, .int c]) (st2 := [.int 1]) (M2 := (A, G, PF)) (hs2 := []) (C := True) [(.iconst 1, 0, 0)] [] (by decide +kernel) rfl trivial ?_
        refine go_goto (off := 4) 32 (by decide +kernel) (by decide) ?_
        exact go_retz (by decide +kernel) rfl (Or.inr rfl) (pv1 (by simp only [f9] at *; grind))
      · rw [bi_f hb6]
        show Go l ro0 mX5_areFactors 27 (A, G, PF) 24 [.int a, .int b, .int c] [.int 0] 27 _
        refine go_ifz (cnd := .eq) (off := 7) 31 (by decide +kernel) (by decide) (fun _ => ?_) (fun (h : ¬ (0 : Int32) = 0) => absurd h (by decide))
        refine go_blk (pc2 := 32) (L2 := [.int a, .int b, .int c]) (st2 := [.int 0]) (M2 := (A, G, PF)) (hs2 := []) (C := True) [(.iconst 0, 0, 0)] [] (by decide +kernel) rfl trivial ?_
        exact go_retz (by decide +kernel) rfl (Or.inl rfl) (pv0 (by simp only [f9] at *; grind))
    · rw [bi_f hb4]
      show Go l ro0 mX5_areFactors 27 (A, G, PF) 15 [.int a, .int b, .int c] [.int 0] 27 _
      refine go_ifz (cnd := .eq) (off := 16) 31 (by decide +kernel) (by decide) (fun _ => ?_) (fun (h : ¬ (0 : Int32) = 0) => absurd h (by decide))
      refine go_blk (pc2 := 32) (L2 := [.int a, .int b, .int c]) (st2 := [.int 0]) (M2 := (A, G, PF)) (hs2 := []) (C := True) [(.iconst 0, 0, 0)] [] (by decide +kernel) rfl trivial ?_
      exact go_retz (by decide +kernel) rfl (Or.inl rfl) (pv0 (by simp only [f9] at *; grind))
  · rw [bi_f hb2]
    show Go l ro0 mX5_areFactors 27 (A, G, PF) 6 [.int a, .int b, .int c] [.int 0] 27 _
    refine go_ifz (cnd := .eq) (off := 25) 31 (by decide +kernel) (by decide) (fun _ => ?_) (fun (h : ¬ (0 : Int32) = 0) => absurd h (by decide))
    refine go_blk (pc2 := 32) (L2 := [.int a, .int b, .int c]) (st2 := [.int 0]) (M2 := (A, G, PF)) (hs2 := []) (C := True) [(.iconst 0, 0, 0)] [] (by decide +kernel) rfl trivial ?_
    exact go_retz (by decide +kernel) rfl (Or.inl rfl) (pv0 (by simp only [f9] at *; grind))
set_option maxRecDepth 100000 in
set_option maxHeartbeats 4000000 in
theorem s_X5_isLimit (l : Launch) (A : Nat → Nat → Int32) (G : Nat → Nat → Int64) (d : Int32) : Sem l mX5_isLimit [.int d] 27 (A, G, PF) 27 (pv (bi (f99 d)) (A, G, PF)) := by
  refine sem_of_go (by decide) rfl (by decide) (by decide) rfl (Nat.le_of_ble_eq_true rfl) ?_
  show Go l ro0 mX5_isLimit 27 (A, G, PF) 0 [.int d] [] 27 (pv (bi (f99 d)) (A, G, PF))
  refine go_blk (pc2 := 3) (L2 := [.int d]) (st2 := [.int 99, .int d]) (M2 := (A, G, PF)) (hs2 := []) (C := True) [(.iload_n 0, 0, 0), (.bipush 99, 0, 0)] [] (by decide +kernel) rfl trivial ?_
  refine go_call (Y2 := mX5_isWithin) (n2 := 27) (st := []) [] [.int d, .int 99] ck_5_132 cwX5_isWithin rfl (by decide +kernel) rfl (fun _ => rfl) (fun h => absurd rfl h) (Nat.le_of_ble_eq_true rfl) (Or.inl rfl) (fun _ _ _ h => h) (s_X5_isWithin l A G d 99) (fun v M2 hp1 => ?_)
  obtain ⟨rfl, rfl⟩ := hp1
  rcases Classical.em (-99 ≤ d ∧ d ≤ 99) with hb2 | hb2
  · rw [bi_t hb2]
    show Go l ro0 mX5_isLimit 27 (A, G, PF) 6 [.int d] [.int 1] 27 _
    exact go_retz (by decide +kernel) rfl (Or.inr rfl) (pv1 (by simp only [f99] at *; grind))
  · rw [bi_f hb2]
    show Go l ro0 mX5_isLimit 27 (A, G, PF) 6 [.int d] [.int 0] 27 _
    exact go_retz (by decide +kernel) rfl (Or.inl rfl) (pv0 (by simp only [f99] at *; grind))
set_option maxRecDepth 100000 in
set_option maxHeartbeats 4000000 in
theorem s_X5_isAtom (l : Launch) (A : Nat → Nat → Int32) (G : Nat → Nat → Int64) (k : Int32) : Sem l mX5_isAtom [.int k] 27 (A, G, PF) 27 (pv (bi (0 ≤ k ∧ k < 5)) (A, G, PF)) := by
  refine sem_of_go (by decide) rfl (by decide) (by decide) rfl (Nat.le_of_ble_eq_true rfl) ?_
  show Go l ro0 mX5_isAtom 27 (A, G, PF) 0 [.int k] [] 27 (pv (bi (0 ≤ k ∧ k < 5)) (A, G, PF))
  refine go_blk (pc2 := 1) (L2 := [.int k]) (st2 := [.int k]) (M2 := (A, G, PF)) (hs2 := []) (C := True) [(.iload_n 0, 0, 0)] [] (by decide +kernel) rfl trivial ?_
  refine go_ifz (cnd := .lt) (off := 12) 13 (by decide +kernel) (by decide) (fun (c1 : k < 0) => ?_) (fun (c1 : ¬ k < 0) => ?_)
  · skip
    refine go_blk (pc2 := 14) (L2 := [.int k]) (st2 := [.int 0]) (M2 := (A, G, PF)) (hs2 := []) (C := True) [(.iconst 0, 0, 0)] [] (by decide +kernel) rfl trivial ?_
    exact go_retz (by decide +kernel) rfl (Or.inl rfl) (pv0 (by grind))
  · skip
    refine go_blk (pc2 := 6) (L2 := [.int k]) (st2 := [.int 5, .int k]) (M2 := (A, G, PF)) (hs2 := []) (C := True) [(.iload_n 0, 0, 0), (.iconst 5, 0, 0)] [] (by decide +kernel) rfl trivial ?_
    refine go_cmp (cnd := .ge) (off := 7) 13 (by decide +kernel) (by decide) (fun (c2 : 5 ≤ k) => ?_) (fun (c2 : ¬ 5 ≤ k) => ?_)
    · skip
      refine go_blk (pc2 := 14) (L2 := [.int k]) (st2 := [.int 0]) (M2 := (A, G, PF)) (hs2 := []) (C := True) [(.iconst 0, 0, 0)] [] (by decide +kernel) rfl trivial ?_
      exact go_retz (by decide +kernel) rfl (Or.inl rfl) (pv0 (by grind))
    · skip
      refine go_blk (pc2 := 10) (L2 := [.int k]) (st2 := [.int 1]) (M2 := (A, G, PF)) (hs2 := []) (C := True) [(.iconst 1, 0, 0)] [] (by decide +kernel) rfl trivial ?_
      refine go_goto (off := 4) 14 (by decide +kernel) (by decide) ?_
      exact go_retz (by decide +kernel) rfl (Or.inr rfl) (pv1 (by grind))
set_option maxRecDepth 100000 in
set_option maxHeartbeats 4000000 in
theorem s_X5_isNumber (l : Launch) (A : Nat → Nat → Int32) (G : Nat → Nat → Int64) (k : Int32) : Sem l mX5_isNumber [.int k] 27 (A, G, PF) 27 (pv (bi (0 ≤ k ∧ k < 3)) (A, G, PF)) := by
  refine sem_of_go (by decide) rfl (by decide) (by decide) rfl (Nat.le_of_ble_eq_true rfl) ?_
  show Go l ro0 mX5_isNumber 27 (A, G, PF) 0 [.int k] [] 27 (pv (bi (0 ≤ k ∧ k < 3)) (A, G, PF))
  refine go_blk (pc2 := 1) (L2 := [.int k]) (st2 := [.int k]) (M2 := (A, G, PF)) (hs2 := []) (C := True) [(.iload_n 0, 0, 0)] [] (by decide +kernel) rfl trivial ?_
  refine go_ifz (cnd := .lt) (off := 12) 13 (by decide +kernel) (by decide) (fun (c1 : k < 0) => ?_) (fun (c1 : ¬ k < 0) => ?_)
  · skip
    refine go_blk (pc2 := 14) (L2 := [.int k]) (st2 := [.int 0]) (M2 := (A, G, PF)) (hs2 := []) (C := True) [(.iconst 0, 0, 0)] [] (by decide +kernel) rfl trivial ?_
    exact go_retz (by decide +kernel) rfl (Or.inl rfl) (pv0 (by grind))
  · skip
    refine go_blk (pc2 := 6) (L2 := [.int k]) (st2 := [.int 3, .int k]) (M2 := (A, G, PF)) (hs2 := []) (C := True) [(.iload_n 0, 0, 0), (.iconst 3, 0, 0)] [] (by decide +kernel) rfl trivial ?_
    refine go_cmp (cnd := .ge) (off := 7) 13 (by decide +kernel) (by decide) (fun (c2 : 3 ≤ k) => ?_) (fun (c2 : ¬ 3 ≤ k) => ?_)
    · skip
      refine go_blk (pc2 := 14) (L2 := [.int k]) (st2 := [.int 0]) (M2 := (A, G, PF)) (hs2 := []) (C := True) [(.iconst 0, 0, 0)] [] (by decide +kernel) rfl trivial ?_
      exact go_retz (by decide +kernel) rfl (Or.inl rfl) (pv0 (by grind))
    · skip
      refine go_blk (pc2 := 10) (L2 := [.int k]) (st2 := [.int 1]) (M2 := (A, G, PF)) (hs2 := []) (C := True) [(.iconst 1, 0, 0)] [] (by decide +kernel) rfl trivial ?_
      refine go_goto (off := 4) 14 (by decide +kernel) (by decide) ?_
      exact go_retz (by decide +kernel) rfl (Or.inr rfl) (pv1 (by grind))
set_option maxRecDepth 100000 in
set_option maxHeartbeats 4000000 in
theorem s_X5_side (l : Launch) (A : Nat → Nat → Int32) (G : Nat → Nat → Int64) (a b : Int32) : Sem l mX5_side [.int a, .int b] 27 (A, G, PF) 27 (pv (1 <<< ((a + b) &&& 31)) (A, G, PF)) := by
  refine sem_of_go (by decide) rfl (by decide) (by decide) rfl (Nat.le_of_ble_eq_true rfl) ?_
  show Go l ro0 mX5_side 27 (A, G, PF) 0 [.int a, .int b] [] 27 (pv (1 <<< ((a + b) &&& 31)) (A, G, PF))
  refine go_blk (pc2 := 5) (L2 := [.int a, .int b]) (st2 := [.int (1 <<< ((a + b) &&& 31))]) (M2 := (A, G, PF)) (hs2 := []) (C := True) [(.iconst 1, 0, 0), (.iload_n 0, 0, 0), (.iload_n 1, 0, 0), (.iadd, 0, 0), (.ishl, 0, 0)] [] (by decide +kernel) rfl trivial ?_
  exact go_reti (by decide +kernel) rfl (⟨rfl, rfl⟩)
set_option maxRecDepth 100000 in
set_option maxHeartbeats 4000000 in
theorem s_X5_onPlane (l : Launch) (A : Nat → Nat → Int32) (G : Nat → Nat → Int64) (b : Int32) : Sem l mX5_onPlane [.int b] 27 (A, G, PF) 27 (pv ((1 <<< ((0 + b) &&& 31)) ||| (1 <<< ((8 + b) &&& 31))) (A, G, PF)) := by
  refine sem_of_go (by decide) rfl (by decide) (by decide) rfl (Nat.le_of_ble_eq_true rfl) ?_
  show Go l ro0 mX5_onPlane 27 (A, G, PF) 0 [.int b] [] 27 (pv ((1 <<< ((0 + b) &&& 31)) ||| (1 <<< ((8 + b) &&& 31))) (A, G, PF))
  refine go_blk (pc2 := 12) (L2 := [.int b]) (st2 := [.int ((1 <<< ((0 + b) &&& 31)) ||| (1 <<< ((8 + b) &&& 31)))]) (M2 := (A, G, PF)) (hs2 := []) (C := True) [(.iconst 1, 0, 0), (.iconst 0, 0, 0), (.iload_n 0, 0, 0), (.iadd, 0, 0), (.ishl, 0, 0), (.iconst 1, 0, 0), (.bipush 8, 0, 0), (.iload_n 0, 0, 0), (.iadd, 0, 0), (.ishl, 0, 0), (.ior, 0, 0)] [] (by decide +kernel) rfl trivial ?_
  exact go_reti (by decide +kernel) rfl (⟨rfl, rfl⟩)
set_option maxRecDepth 100000 in
set_option maxHeartbeats 4000000 in
theorem s_X5_holdsIn (l : Launch) (A : Nat → Nat → Int32) (G : Nat → Nat → Int64) (s m : Nat) (x y : Int32) (hs : s < 32) (hm : m < 10) (hx : x = nI s) (hy : y = nI m) : Sem l mX5_holdsIn [.int x, .int y] 27 (A, G, PF) 27 (pv (bi (HL s m)) (A, G, PF)) := by
  refine sem_of_go (by decide) rfl (by decide) (by decide) rfl (Nat.le_of_ble_eq_true rfl) ?_
  show Go l ro0 mX5_holdsIn 27 (A, G, PF) 0 [.int x, .int y, .null] [] 27 (pv (bi (HL s m)) (A, G, PF))
  refine go_blk (pc2 := 8) (L2 := [.int x, .int y, .null]) (st2 := [.int 1, .int ((x >>> ((y >>> (1 &&& 31)) &&& 31)) &&& 1)]) (M2 := (A, G, PF)) (hs2 := []) (C := True) [(.iload_n 0, 0, 0), (.iload_n 1, 0, 0), (.iconst 1, 0, 0), (.ishr, 0, 0), (.ishr, 0, 0), (.iconst 1, 0, 0), (.iand, 0, 0), (.iconst 1, 0, 0)] [] (by decide +kernel) rfl trivial ?_
  refine go_cmp (cnd := .ne) (off := 7) 15 (by decide +kernel) (by decide) (fun (c1 : ¬ ((x >>> ((y >>> (1 &&& 31)) &&& 31)) &&& 1) = 1) => ?_) (fun (c1 : ((x >>> ((y >>> (1 &&& 31)) &&& 31)) &&& 1) = 1) => ?_)
  · skip
    refine go_blk (pc2 := 21) (L2 := [.int x, .int y, .int 0]) (st2 := [.int (y &&& 1), .int 0]) (M2 := (A, G, PF)) (hs2 := []) (C := True) [(.iconst 0, 0, 0), (.istore_n 2, 0, 0), (.iload_n 2, 0, 0), (.iload_n 1, 0, 0), (.iconst 1, 0, 0), (.iand, 0, 0)] [] (by decide +kernel) rfl trivial ?_
    refine go_ifz (cnd := .ne) (off := 7) 28 (by decide +kernel) (by decide) (fun (c2 : ¬ (y &&& 1) = 0) => ?_) (fun (c2 : (y &&& 1) = 0) => ?_)
    · skip
      refine go_blk (pc2 := 29) (L2 := [.int x, .int y, .int 0]) (st2 := [.int 0, .int 0]) (M2 := (A, G, PF)) (hs2 := []) (C := True) [(.iconst 0, 0, 0)] [] (by decide +kernel) rfl trivial ?_
      refine go_cmp (cnd := .ne) (off := 7) 36 (by decide +kernel) (by decide) (fun (h : ¬ (0 : Int32) = 0) => absurd h (by decide)) (fun _ => ?_)
      refine go_blk (pc2 := 33) (L2 := [.int x, .int y, .int 0]) (st2 := [.int 1]) (M2 := (A, G, PF)) (hs2 := []) (C := True) [(.iconst 1, 0, 0)] [] (by decide +kernel) rfl trivial ?_
      refine go_goto (off := 4) 37 (by decide +kernel) (by decide) ?_
      exact go_retz (by decide +kernel) rfl (Or.inr rfl) (pv1 (by rw [HL_iff hs hm, ← hx, ← hy]; simp_all))
    · skip
      refine go_blk (pc2 := 25) (L2 := [.int x, .int y, .int 0]) (st2 := [.int 1, .int 0]) (M2 := (A, G, PF)) (hs2 := []) (C := True) [(.iconst 1, 0, 0)] [] (by decide +kernel) rfl trivial ?_
      refine go_goto (off := 4) 29 (by decide +kernel) (by decide) ?_
      refine go_cmp (cnd := .ne) (off := 7) 36 (by decide +kernel) (by decide) (fun _ => ?_) (fun (h : (0 : Int32) = 1) => absurd h (by decide))
      refine go_blk (pc2 := 37) (L2 := [.int x, .int y, .int 0]) (st2 := [.int 0]) (M2 := (A, G, PF)) (hs2 := []) (C := True) [(.iconst 0, 0, 0)] [] (by decide +kernel) rfl trivial ?_
      exact go_retz (by decide +kernel) rfl (Or.inl rfl) (pv0 (by rw [HL_iff hs hm, ← hx, ← hy]; simp_all))
  · skip
    refine go_blk (pc2 := 12) (L2 := [.int x, .int y, .null]) (st2 := [.int 1]) (M2 := (A, G, PF)) (hs2 := []) (C := True) [(.iconst 1, 0, 0)] [] (by decide +kernel) rfl trivial ?_
    refine go_goto (off := 4) 16 (by decide +kernel) (by decide) ?_
    refine go_blk (pc2 := 21) (L2 := [.int x, .int y, .int 1]) (st2 := [.int (y &&& 1), .int 1]) (M2 := (A, G, PF)) (hs2 := []) (C := True) [(.istore_n 2, 0, 0), (.iload_n 2, 0, 0), (.iload_n 1, 0, 0), (.iconst 1, 0, 0), (.iand, 0, 0)] [] (by decide +kernel) rfl trivial ?_
    refine go_ifz (cnd := .ne) (off := 7) 28 (by decide +kernel) (by decide) (fun (c3 : ¬ (y &&& 1) = 0) => ?_) (fun (c3 : (y &&& 1) = 0) => ?_)
    · skip
      refine go_blk (pc2 := 29) (L2 := [.int x, .int y, .int 1]) (st2 := [.int 0, .int 1]) (M2 := (A, G, PF)) (hs2 := []) (C := True) [(.iconst 0, 0, 0)] [] (by decide +kernel) rfl trivial ?_
      refine go_cmp (cnd := .ne) (off := 7) 36 (by decide +kernel) (by decide) (fun _ => ?_) (fun (h : (1 : Int32) = 0) => absurd h (by decide))
      refine go_blk (pc2 := 37) (L2 := [.int x, .int y, .int 1]) (st2 := [.int 0]) (M2 := (A, G, PF)) (hs2 := []) (C := True) [(.iconst 0, 0, 0)] [] (by decide +kernel) rfl trivial ?_
      exact go_retz (by decide +kernel) rfl (Or.inl rfl) (pv0 (by rw [HL_iff hs hm, ← hx, ← hy]; simp_all))
    · skip
      refine go_blk (pc2 := 25) (L2 := [.int x, .int y, .int 1]) (st2 := [.int 1, .int 1]) (M2 := (A, G, PF)) (hs2 := []) (C := True) [(.iconst 1, 0, 0)] [] (by decide +kernel) rfl trivial ?_
      refine go_goto (off := 4) 29 (by decide +kernel) (by decide) ?_
      refine go_cmp (cnd := .ne) (off := 7) 36 (by decide +kernel) (by decide) (fun (h : ¬ (1 : Int32) = 1) => absurd h (by decide)) (fun _ => ?_)
      refine go_blk (pc2 := 33) (L2 := [.int x, .int y, .int 1]) (st2 := [.int 1]) (M2 := (A, G, PF)) (hs2 := []) (C := True) [(.iconst 1, 0, 0)] [] (by decide +kernel) rfl trivial ?_
      refine go_goto (off := 4) 37 (by decide +kernel) (by decide) ?_
      exact go_retz (by decide +kernel) rfl (Or.inr rfl) (pv1 (by rw [HL_iff hs hm, ← hx, ← hy]; simp_all))
set_option maxRecDepth 100000 in
set_option maxHeartbeats 4000000 in
theorem s_X5_areEqual (l : Launch) (A : Nat → Nat → Int32) (G : Nat → Nat → Int64) (p a b : Nat) (x y : Int32) (hp : p < 5) (ha : a < 3) (hb : b < 3) (hx : x = nI a) (hy : y = nI b) : Sem l mX5_areEqual [.int (nI p), .int x, .int y] 27 (A, G, PF) 27 (pv (bi (Eq3 p a b)) (A, G, PF)) := by
  refine sem_of_go (by decide) rfl (by decide) (by decide) rfl (Nat.le_of_ble_eq_true rfl) ?_
  show Go l ro0 mX5_areEqual 27 (A, G, PF) 0 [.int (nI p), .int x, .int y, .null, .null] [] 27 (pv (bi (Eq3 p a b)) (A, G, PF))
  refine go_blk (pc2 := 14) (L2 := [.int (nI p), .int x, .int y, .int (((nI p) * 3) + x), .int (((nI p) * 3) + y)]) (st2 := [.int (((nI p) * 3) + x)]) (M2 := (A, G, PF)) (hs2 := []) (C := True) [(.iload_n 0, 0, 0), (.iconst 3, 0, 0), (.imul, 0, 0), (.iload_n 1, 0, 0), (.iadd, 0, 0), (.istore_n 3, 0, 0), (.iload_n 0, 0, 0), (.iconst 3, 0, 0), (.imul, 0, 0), (.iload_n 2, 0, 0), (.iadd, 0, 0), (.istore 4, 0, 0), (.iload_n 3, 0, 0)] [] (by decide +kernel) rfl trivial ?_
  refine go_ifz (cnd := .lt) (off := 25) 39 (by decide +kernel) (by decide) (fun (h : (((nI p) * 3) + x) < 0) => absurd h (fun zz => absurd ((nx_lt (a := ((p * 3) + a)) (b := 0) (by first | rfl | (simp only [hx, nI, Int32.ofNat_add, Int32.ofNat_mul]; done) | (simp only [hx, nI, Int32.ofNat_add, Int32.ofNat_mul]; rfl)) rfl (by omega) (by omega)).mp zz) (by omega))) (fun _ => ?_)
  refine go_blk (pc2 := 22) (L2 := [.int (nI p), .int x, .int y, .int (((nI p) * 3) + x), .int (((nI p) * 3) + y)]) (st2 := [.int (nI 15), .int (((nI p) * 3) + x)]) (M2 := (A, G, PF)) (hs2 := []) (C := True) [(.iload_n 3, 0, 0), (.getstatic 135, 102, 0), (.arraylength, 0, 0)] [] (by decide +kernel) rfl trivial ?_
  refine go_cmp (cnd := .ge) (off := 17) 39 (by decide +kernel) (by decide) (fun (h : (nI 15) ≤ (((nI p) * 3) + x)) => absurd h (fun zz => absurd ((nx_le (a := 15) (b := ((p * 3) + a)) rfl (by first | rfl | (simp only [hx, nI, Int32.ofNat_add, Int32.ofNat_mul]; done) | (simp only [hx, nI, Int32.ofNat_add, Int32.ofNat_mul]; rfl)) (by omega) (by omega)).mp zz) (by omega))) (fun _ => ?_)
  refine go_blk (pc2 := 27) (L2 := [.int (nI p), .int x, .int y, .int (((nI p) * 3) + x), .int (((nI p) * 3) + y)]) (st2 := [.int (((nI p) * 3) + y)]) (M2 := (A, G, PF)) (hs2 := []) (C := True) [(.iload 4, 0, 0)] [] (by decide +kernel) rfl trivial ?_
  refine go_ifz (cnd := .lt) (off := 12) 39 (by decide +kernel) (by decide) (fun (h : (((nI p) * 3) + y) < 0) => absurd h (fun zz => absurd ((nx_lt (a := ((p * 3) + b)) (b := 0) (by first | rfl | (simp only [hy, nI, Int32.ofNat_add, Int32.ofNat_mul]; done) | (simp only [hy, nI, Int32.ofNat_add, Int32.ofNat_mul]; rfl)) rfl (by omega) (by omega)).mp zz) (by omega))) (fun _ => ?_)
  refine go_blk (pc2 := 36) (L2 := [.int (nI p), .int x, .int y, .int (((nI p) * 3) + x), .int (((nI p) * 3) + y)]) (st2 := [.int (nI 15), .int (((nI p) * 3) + y)]) (M2 := (A, G, PF)) (hs2 := []) (C := True) [(.iload 4, 0, 0), (.getstatic 135, 102, 0), (.arraylength, 0, 0)] [] (by decide +kernel) rfl trivial ?_
  refine go_cmp (cnd := .lt) (off := 5) 41 (by decide +kernel) (by decide) (fun _ => ?_) (fun (h : ¬ (((nI p) * 3) + y) < (nI 15)) => absurd h (fun zz => zz ((nx_lt (a := ((p * 3) + b)) (b := 15) (by first | rfl | (simp only [hy, nI, Int32.ofNat_add, Int32.ofNat_mul]; done) | (simp only [hy, nI, Int32.ofNat_add, Int32.ofNat_mul]; rfl)) rfl (by omega) (by omega)).mpr (by omega))))
  refine go_blk (pc2 := 52) (L2 := [.int (nI p), .int x, .int y, .int (((nI p) * 3) + x), .int (((nI p) * 3) + y)]) (st2 := [.int (rov 102 ((p * 3) + b)), .int (rov 102 ((p * 3) + a))]) (M2 := (A, G, PF)) (hs2 := []) (C := ((((nI p) * 3) + x) = nI ((p * 3) + a) ∧ ((p * 3) + a) < 15) ∧ ((((nI p) * 3) + y) = nI ((p * 3) + b) ∧ ((p * 3) + b) < 15) ∧ True) [(.getstatic 135, 102, 0), (.iload_n 3, 0, 0), (.iaload, 0, 0), (.getstatic 135, 102, 0), (.iload 4, 0, 0), (.iaload, 0, 0)] [((p * 3) + a), ((p * 3) + b)] (by decide +kernel) rfl ⟨⟨(by first | rfl | (simp only [hx, nI, Int32.ofNat_add, Int32.ofNat_mul]; done) | (simp only [hx, nI, Int32.ofNat_add, Int32.ofNat_mul]; rfl)), by omega⟩, ⟨(by first | rfl | (simp only [hy, nI, Int32.ofNat_add, Int32.ofNat_mul]; done) | (simp only [hy, nI, Int32.ofNat_add, Int32.ofNat_mul]; rfl)), by omega⟩, trivial⟩ ?_
  refine go_cmp (cnd := .ne) (off := 7) 59 (by decide +kernel) (by decide) (fun (c1 : ¬ (rov 102 ((p * 3) + a)) = (rov 102 ((p * 3) + b))) => ?_) (fun (c1 : (rov 102 ((p * 3) + a)) = (rov 102 ((p * 3) + b))) => ?_)
  · skip
    refine go_blk (pc2 := 60) (L2 := [.int (nI p), .int x, .int y, .int (((nI p) * 3) + x), .int (((nI p) * 3) + y)]) (st2 := [.int 0]) (M2 := (A, G, PF)) (hs2 := []) (C := True) [(.iconst 0, 0, 0)] [] (by decide +kernel) rfl trivial ?_
    exact go_retz (by decide +kernel) rfl (Or.inl rfl) (pv0 (by rw [Eq3_iff hp ha hb]; simp_all))
  · skip
    refine go_blk (pc2 := 56) (L2 := [.int (nI p), .int x, .int y, .int (((nI p) * 3) + x), .int (((nI p) * 3) + y)]) (st2 := [.int 1]) (M2 := (A, G, PF)) (hs2 := []) (C := True) [(.iconst 1, 0, 0)] [] (by decide +kernel) rfl trivial ?_
    refine go_goto (off := 4) 60 (by decide +kernel) (by decide) ?_
    exact go_retz (by decide +kernel) rfl (Or.inr rfl) (pv1 (by rw [Eq3_iff hp ha hb]; simp_all))
