def snd (A : Nat → Nat → Int32) (s : Nat) : Nat → Int32
  | 0 => 0
  | k + 1 => if A 2 k = 1 then snd A s k ||| (1 <<< (((if s.testBit k = true then 0 else 8) + nI k) &&& 31)) else if A 2 k = 2 ∧ s.testBit k = true then snd A s k ||| ((1 <<< ((0 + nI k) &&& 31)) ||| (1 <<< ((8 + nI k) &&& 31))) else snd A s k
def ssg (A : Nat → Nat → Int32) (s : Nat) : Nat → Int32
  | 0 => 0
  | k + 1 => if A 2 k = 1 ∧ ¬ s.testBit k = true then ssg A s k ||| (1 <<< ((16 + nI k) &&& 31)) else if A 2 k = 2 ∧ ¬ s.testBit k = true then ssg A s k ||| (1 <<< ((24 + nI k) &&& 31)) else ssg A s k
/-- the numbers that the t-th pair is of -/
def prt (o t : Nat) : Nat := match o, t with
  | 100, 2 => 1
  | 100, _ => 0
  | _, 0 => 1
  | _, _ => 2
theorem prt_ok : ∀ t, t < 3 → rov 100 t = nI (prt 100 t) ∧ rov 101 t = nI (prt 101 t) ∧ prt 100 t < 3 ∧ prt 101 t < 3 := by decide +kernel
def PEq (p t : Nat) : Prop := Eq3 p (prt 100 t) (prt 101 t)
noncomputable def pnd (p : Nat) : Nat → Int32
  | 0 => 0
  | t + 1 => @ite Int32 (PEq p t) (Classical.propDecidable _) (pnd p t ||| ((1 <<< ((0 + (5 + nI t)) &&& 31)) ||| (1 <<< ((8 + (5 + nI t)) &&& 31)))) (pnd p t)
noncomputable def psg (p : Nat) : Nat → Int32
  | 0 => 0
  | t + 1 => @ite Int32 (PEq p t) (Classical.propDecidable _) (psg p t) (psg p t ||| (1 <<< ((24 + (5 + nI t)) &&& 31)))
theorem pnd_t {p t : Nat} (h : PEq p t) : pnd p (t + 1) = (pnd p t ||| ((1 <<< ((0 + (5 + nI t)) &&& 31)) ||| (1 <<< ((8 + (5 + nI t)) &&& 31)))) := if_pos h
theorem pnd_f {p t : Nat} (h : ¬ PEq p t) : pnd p (t + 1) = pnd p t := if_neg h
theorem psg_t {p t : Nat} (h : PEq p t) : psg p (t + 1) = psg p t := if_pos h
theorem psg_f {p t : Nat} (h : ¬ PEq p t) : psg p (t + 1) = (psg p t ||| (1 <<< ((24 + (5 + nI t)) &&& 31))) := if_neg h
def fi (A : Nat → Nat → Int32) (k : Nat) : Nat := (A 7 k).toNatClampNeg
def fj (A : Nat → Nat → Int32) (k : Nat) : Nat := (A 8 k).toNatClampNeg
/-- the facts' numbers are in range -/
def FOk (A : Nat → Nat → Int32) : Prop := ∀ k, k < 5 → A 2 k = 3 → (fi A k < 3 ∧ A 7 k = nI (fi A k)) ∧ (fj A k < 3 ∧ A 8 k = nI (fj A k))
def Contr (A : Nat → Nat → Int32) (s p k m : Nat) : Prop := A 2 k = 3 ∧ A 2 m = 3 ∧ (s.testBit k = true ∨ s.testBit m = true) ∧ Eq3 p (fi A k) (fi A m) ∧ ¬ (Eq3 p (fj A k) (fj A m) ↔ (s.testBit k = true ∧ s.testBit m = true))
def HasF (A : Nat → Nat → Int32) (s p : Nat) : Prop := ∀ k, k < 5 → ∀ m, m < k → ¬ Contr A s p k m
theorem atm_in {k : Nat} (hk : k < 5) : 0 ≤ nI k ∧ nI k < 5 := ⟨nI_pos' (by omega), nI_lt hk (by decide)⟩
set_option maxRecDepth 100000 in
set_option maxHeartbeats 4000000 in
theorem s_X0_defined (l : Launch) (A : Nat → Nat → Int32) (G : Nat → Nat → Int64) : Sem l mX0_defined [.ref 1] 27 (A, G, PF) 27 (pv (A 1 7) (A, G, PF)) := by
  refine sem_of_go (by decide) rfl (by decide) (by decide) rfl (Nat.le_of_ble_eq_true rfl) ?_
  show Go l ro0 mX0_defined 27 (A, G, PF) 0 [.ref 1] [] 27 (pv (A 1 7) (A, G, PF))
  refine go_blk (pc2 := 4) (L2 := [.ref 1]) (st2 := [.int (A 1 7)]) (M2 := (A, G, PF)) (hs2 := []) (C := True) [(.aload_n 0, 0, 0), (.getfield 33, 0, 7)] [] (by decide +kernel) rfl trivial ?_
  exact go_reti (by decide +kernel) rfl (⟨rfl, rfl⟩)
set_option maxRecDepth 100000 in
set_option maxHeartbeats 4000000 in
theorem s_X0_setPlane (l : Launch) (A : Nat → Nat → Int32) (G : Nat → Nat → Int64) (kk : Nat) (hk : kk < 5) (a b c d : Int32) : Sem l mX0_setPlane [.ref 1, .int (nI kk), .int a, .int b, .int c, .int d] 27 (A, G, PF) 27 (pm ((u2 (u2 (u2 (u2 A 3 kk a) 4 kk b) 5 kk c) 6 kk d), G, PF)) := by
  refine sem_of_go (by decide) rfl (by decide) (by decide) rfl (Nat.le_of_ble_eq_true rfl) ?_
  show Go l ro0 mX0_setPlane 27 (A, G, PF) 0 [.ref 1, .int (nI kk), .int a, .int b, .int c, .int d] [] 27 (pm ((u2 (u2 (u2 (u2 A 3 kk a) 4 kk b) 5 kk c) 6 kk d), G, PF))
  refine go_blk (pc2 := 1) (L2 := [.ref 1, .int (nI kk), .int a, .int b, .int c, .int d]) (st2 := [.int (nI kk)]) (M2 := (A, G, PF)) (hs2 := []) (C := True) [(.iload_n 1, 0, 0)] [] (by decide +kernel) rfl trivial ?_
  refine go_call (Y2 := mX5_isAtom) (n2 := 27) (st := []) [] [.int (nI kk)] ck_0_37 cwX5_isAtom rfl (by decide +kernel) rfl (fun _ => rfl) (fun h => absurd rfl h) (Nat.le_of_ble_eq_true rfl) (Or.inl rfl) (fun _ _ _ h => h) (s_X5_isAtom l A G (nI kk)) (fun v M2 hp1 => ?_)
  obtain ⟨rfl, rfl⟩ := hp1
  rw [bi_t (atm_in (by omega))]
  show Go l ro0 mX0_setPlane 27 (A, G, PF) 4 [.ref 1, .int (nI kk), .int a, .int b, .int c, .int d] [.int 1] 27 _
  refine go_ifz (cnd := .eq) (off := 33) 37 (by decide +kernel) (by decide) (fun (h : (1 : Int32) = 0) => absurd h (by decide)) (fun _ => ?_)
  refine go_blk (pc2 := 37) (L2 := [.ref 1, .int (nI kk), .int a, .int b, .int c, .int d]) (st2 := []) (M2 := ((u2 (u2 (u2 (u2 A 3 kk a) 4 kk b) 5 kk c) 6 kk d), G, PF)) (hs2 := []) (C := ((nI kk) = nI kk ∧ kk < 5) ∧ ((nI kk) = nI kk ∧ kk < 5) ∧ ((nI kk) = nI kk ∧ kk < 5) ∧ ((nI kk) = nI kk ∧ kk < 5) ∧ True) [(.aload_n 0, 0, 0), (.getfield 15, 0, 1), (.iload_n 1, 0, 0), (.iload_n 2, 0, 0), (.iastore, 0, 0), (.aload_n 0, 0, 0), (.getfield 18, 0, 2), (.iload_n 1, 0, 0), (.iload_n 3, 0, 0), (.iastore, 0, 0), (.aload_n 0, 0, 0), (.getfield 21, 0, 3), (.iload_n 1, 0, 0), (.iload 4, 0, 0), (.iastore, 0, 0), (.aload_n 0, 0, 0), (.getfield 24, 0, 4), (.iload_n 1, 0, 0), (.iload 5, 0, 0), (.iastore, 0, 0)] [kk, kk, kk, kk] (by decide +kernel) rfl ⟨⟨rfl, by omega⟩, ⟨rfl, by omega⟩, ⟨rfl, by omega⟩, ⟨rfl, by omega⟩, trivial⟩ ?_
  exact go_retv (by decide +kernel) rfl (⟨rfl, rfl⟩)
set_option maxRecDepth 100000 in
set_option maxHeartbeats 4000000 in
theorem s_X0_defineLinear (l : Launch) (A : Nat → Nat → Int32) (G : Nat → Nat → Int64) (kk : Nat) (hk : kk < 5) (a b c d e : Int32) : Sem l mX0_defineLinear [.ref 1, .int (nI kk), .int a, .int b, .int c, .int d, .int e] 27 (A, G, PF) 27 (pm ((u2 (u2 (u2 (u2 (u2 (u2 A 3 kk a) 4 kk b) 5 kk c) 6 kk d) 2 kk (if e = 0 then 1 else 2)) 1 7 (A 1 7 ||| (1 <<< (nI kk &&& 31)))), G, PF)) := by
  refine sem_of_go (by decide) rfl (by decide) (by decide) rfl (Nat.le_of_ble_eq_true rfl) ?_
  show Go l ro0 mX0_defineLinear 27 (A, G, PF) 0 [.ref 1, .int (nI kk), .int a, .int b, .int c, .int d, .int e] [] 27 (pm ((u2 (u2 (u2 (u2 (u2 (u2 A 3 kk a) 4 kk b) 5 kk c) 6 kk d) 2 kk (if e = 0 then 1 else 2)) 1 7 (A 1 7 ||| (1 <<< (nI kk &&& 31)))), G, PF))
  refine go_blk (pc2 := 1) (L2 := [.ref 1, .int (nI kk), .int a, .int b, .int c, .int d, .int e]) (st2 := [.int (nI kk)]) (M2 := (A, G, PF)) (hs2 := []) (C := True) [(.iload_n 1, 0, 0)] [] (by decide +kernel) rfl trivial ?_
  refine go_call (Y2 := mX5_isAtom) (n2 := 27) (st := []) [] [.int (nI kk)] ck_0_37 cwX5_isAtom rfl (by decide +kernel) rfl (fun _ => rfl) (fun h => absurd rfl h) (Nat.le_of_ble_eq_true rfl) (Or.inl rfl) (fun _ _ _ h => h) (s_X5_isAtom l A G (nI kk)) (fun v M2 hp1 => ?_)
  obtain ⟨rfl, rfl⟩ := hp1
  rw [bi_t (atm_in (by omega))]
  show Go l ro0 mX0_defineLinear 27 (A, G, PF) 4 [.ref 1, .int (nI kk), .int a, .int b, .int c, .int d, .int e] [.int 1] 27 _
  refine go_ifz (cnd := .ne) (off := 4) 8 (by decide +kernel) (by decide) (fun _ => ?_) (fun (h : (1 : Int32) = 0) => absurd h (by decide))
  refine go_blk (pc2 := 16) (L2 := [.ref 1, .int (nI kk), .int a, .int b, .int c, .int d, .int e]) (st2 := [.int d, .int c, .int b, .int a, .int (nI kk), .ref 1]) (M2 := (A, G, PF)) (hs2 := []) (C := True) [(.aload_n 0, 0, 0), (.iload_n 1, 0, 0), (.iload_n 2, 0, 0), (.iload_n 3, 0, 0), (.iload 4, 0, 0), (.iload 5, 0, 0)] [] (by decide +kernel) rfl trivial ?_
  refine go_call (Y2 := mX0_setPlane) (n2 := 27) (st := []) [.ref 1] [.int (nI kk), .int a, .int b, .int c, .int d] ck_0_41 cwX0_setPlane rfl (by decide +kernel) rfl (fun h => absurd h (by decide)) (fun _ => ⟨1, rfl, by decide, rfl⟩) (Nat.le_of_ble_eq_true rfl) (Or.inl rfl) (fun _ _ _ h => h) (s_X0_setPlane l A G kk hk a b c d) (fun v M2 hp2 => ?_)
  obtain ⟨rfl, rfl⟩ := hp2
  show Go l ro0 mX0_defineLinear 27 ((u2 (u2 (u2 (u2 A 3 kk a) 4 kk b) 5 kk c) 6 kk d), G, PF) 19 [.ref 1, .int (nI kk), .int a, .int b, .int c, .int d, .int e] [] 27 _
  refine go_blk (pc2 := 26) (L2 := [.ref 1, .int (nI kk), .int a, .int b, .int c, .int d, .int e]) (st2 := [.int e, .int (nI kk), .ref 2]) (M2 := ((u2 (u2 (u2 (u2 A 3 kk a) 4 kk b) 5 kk c) 6 kk d), G, PF)) (hs2 := []) (C := True) [(.aload_n 0, 0, 0), (.getfield 9, 0, 0), (.iload_n 1, 0, 0), (.iload 6, 0, 0)] [] (by decide +kernel) rfl trivial ?_
  refine go_ifz (cnd := .eq) (off := 7) 33 (by decide +kernel) (by decide) (fun (c3 : e = 0) => ?_) (fun (c3 : ¬ e = 0) => ?_)
  · skip
    refine go_blk (pc2 := 47) (L2 := [.ref 1, .int (nI kk), .int a, .int b, .int c, .int d, .int e]) (st2 := []) (M2 := ((u2 (u2 (u2 (u2 (u2 (u2 A 3 kk a) 4 kk b) 5 kk c) 6 kk d) 2 kk 1) 1 7 ((A 1 7) ||| (1 <<< ((nI kk) &&& 31)))), G, PF)) (hs2 := []) (C := ((nI kk) = nI kk ∧ kk < 5) ∧ True) [(.iconst 1, 0, 0), (.iastore, 0, 0), (.aload_n 0, 0, 0), (.dup, 0, 0), (.getfield 33, 0, 7), (.iconst 1, 0, 0), (.iload_n 1, 0, 0), (.ishl, 0, 0), (.ior, 0, 0), (.putfield 33, 0, 7)] [kk] (by decide +kernel) rfl ⟨⟨rfl, by omega⟩, trivial⟩ ?_
    exact go_retv (by decide +kernel) rfl (⟨rfl, by simp [*]⟩)
  · skip
    refine go_blk (pc2 := 30) (L2 := [.ref 1, .int (nI kk), .int a, .int b, .int c, .int d, .int e]) (st2 := [.int 2, .int (nI kk), .ref 2]) (M2 := ((u2 (u2 (u2 (u2 A 3 kk a) 4 kk b) 5 kk c) 6 kk d), G, PF)) (hs2 := []) (C := True) [(.iconst 2, 0, 0)] [] (by decide +kernel) rfl trivial ?_
    refine go_goto (off := 4) 34 (by decide +kernel) (by decide) ?_
    refine go_blk (pc2 := 47) (L2 := [.ref 1, .int (nI kk), .int a, .int b, .int c, .int d, .int e]) (st2 := []) (M2 := ((u2 (u2 (u2 (u2 (u2 (u2 A 3 kk a) 4 kk b) 5 kk c) 6 kk d) 2 kk 2) 1 7 ((A 1 7) ||| (1 <<< ((nI kk) &&& 31)))), G, PF)) (hs2 := []) (C := ((nI kk) = nI kk ∧ kk < 5) ∧ True) [(.iastore, 0, 0), (.aload_n 0, 0, 0), (.dup, 0, 0), (.getfield 33, 0, 7), (.iconst 1, 0, 0), (.iload_n 1, 0, 0), (.ishl, 0, 0), (.ior, 0, 0), (.putfield 33, 0, 7)] [kk] (by decide +kernel) rfl ⟨⟨rfl, by omega⟩, trivial⟩ ?_
    exact go_retv (by decide +kernel) rfl (⟨rfl, by simp [*]⟩)
set_option maxRecDepth 100000 in
set_option maxHeartbeats 4000000 in
theorem s_X0_defineFact (l : Launch) (A : Nat → Nat → Int32) (G : Nat → Nat → Int64) (kk : Nat) (hk : kk < 5) (i j : Int32) : Sem l mX0_defineFact [.ref 1, .int (nI kk), .int i, .int j] 27 (A, G, PF) 27 (pm ((u2 (u2 (u2 (u2 (u2 (u2 (u2 (u2 A 3 kk 0) 4 kk 0) 5 kk 0) 6 kk 0) 2 kk 3) 7 kk i) 8 kk j) 1 7 (A 1 7 ||| (1 <<< (nI kk &&& 31)))), G, PF)) := by
  refine sem_of_go (by decide) rfl (by decide) (by decide) rfl (Nat.le_of_ble_eq_true rfl) ?_
  show Go l ro0 mX0_defineFact 27 (A, G, PF) 0 [.ref 1, .int (nI kk), .int i, .int j] [] 27 (pm ((u2 (u2 (u2 (u2 (u2 (u2 (u2 (u2 A 3 kk 0) 4 kk 0) 5 kk 0) 6 kk 0) 2 kk 3) 7 kk i) 8 kk j) 1 7 (A 1 7 ||| (1 <<< (nI kk &&& 31)))), G, PF))
  refine go_blk (pc2 := 1) (L2 := [.ref 1, .int (nI kk), .int i, .int j]) (st2 := [.int (nI kk)]) (M2 := (A, G, PF)) (hs2 := []) (C := True) [(.iload_n 1, 0, 0)] [] (by decide +kernel) rfl trivial ?_
  refine go_call (Y2 := mX5_isAtom) (n2 := 27) (st := []) [] [.int (nI kk)] ck_0_37 cwX5_isAtom rfl (by decide +kernel) rfl (fun _ => rfl) (fun h => absurd rfl h) (Nat.le_of_ble_eq_true rfl) (Or.inl rfl) (fun _ _ _ h => h) (s_X5_isAtom l A G (nI kk)) (fun v M2 hp1 => ?_)
  obtain ⟨rfl, rfl⟩ := hp1
  rw [bi_t (atm_in (by omega))]
  show Go l ro0 mX0_defineFact 27 (A, G, PF) 4 [.ref 1, .int (nI kk), .int i, .int j] [.int 1] 27 _
  refine go_ifz (cnd := .ne) (off := 4) 8 (by decide +kernel) (by decide) (fun _ => ?_) (fun (h : (1 : Int32) = 0) => absurd h (by decide))
  refine go_blk (pc2 := 14) (L2 := [.ref 1, .int (nI kk), .int i, .int j]) (st2 := [.int 0, .int 0, .int 0, .int 0, .int (nI kk), .ref 1]) (M2 := (A, G, PF)) (hs2 := []) (C := True) [(.aload_n 0, 0, 0), (.iload_n 1, 0, 0), (.iconst 0, 0, 0), (.iconst 0, 0, 0), (.iconst 0, 0, 0), (.iconst 0, 0, 0)] [] (by decide +kernel) rfl trivial ?_
  refine go_call (Y2 := mX0_setPlane) (n2 := 27) (st := []) [.ref 1] [.int (nI kk), .int 0, .int 0, .int 0, .int 0] ck_0_41 cwX0_setPlane rfl (by decide +kernel) rfl (fun h => absurd h (by decide)) (fun _ => ⟨1, rfl, by decide, rfl⟩) (Nat.le_of_ble_eq_true rfl) (Or.inl rfl) (fun _ _ _ h => h) (s_X0_setPlane l A G kk hk 0 0 0 0) (fun v M2 hp2 => ?_)
  obtain ⟨rfl, rfl⟩ := hp2
  show Go l ro0 mX0_defineFact 27 ((u2 (u2 (u2 (u2 A 3 kk 0) 4 kk 0) 5 kk 0) 6 kk 0), G, PF) 17 [.ref 1, .int (nI kk), .int i, .int j] [] 27 _
  refine go_blk (pc2 := 50) (L2 := [.ref 1, .int (nI kk), .int i, .int j]) (st2 := []) (M2 := ((u2 (u2 (u2 (u2 (u2 (u2 (u2 (u2 A 3 kk 0) 4 kk 0) 5 kk 0) 6 kk 0) 2 kk 3) 7 kk i) 8 kk j) 1 7 ((A 1 7) ||| (1 <<< ((nI kk) &&& 31)))), G, PF)) (hs2 := []) (C := ((nI kk) = nI kk ∧ kk < 5) ∧ ((nI kk) = nI kk ∧ kk < 5) ∧ ((nI kk) = nI kk ∧ kk < 5) ∧ True) [(.aload_n 0, 0, 0), (.getfield 9, 0, 0), (.iload_n 1, 0, 0), (.iconst 3, 0, 0), (.iastore, 0, 0), (.aload_n 0, 0, 0), (.getfield 27, 0, 5), (.iload_n 1, 0, 0), (.iload_n 2, 0, 0), (.iastore, 0, 0), (.aload_n 0, 0, 0), (.getfield 30, 0, 6), (.iload_n 1, 0, 0), (.iload_n 3, 0, 0), (.iastore, 0, 0), (.aload_n 0, 0, 0), (.dup, 0, 0), (.getfield 33, 0, 7), (.iconst 1, 0, 0), (.iload_n 1, 0, 0), (.ishl, 0, 0), (.ior, 0, 0), (.putfield 33, 0, 7)] [kk, kk, kk] (by decide +kernel) rfl ⟨⟨rfl, by omega⟩, ⟨rfl, by omega⟩, ⟨rfl, by omega⟩, trivial⟩ ?_
  exact go_retv (by decide +kernel) rfl (⟨rfl, rfl⟩)
set_option maxRecDepth 100000 in
set_option maxHeartbeats 4000000 in
theorem lp_X0_sidesNeeded (l : Launch) (A : Nat → Nat → Int32) (G : Nat → Nat → Int64) (s : Nat) (hs : s < 32) : ∀ k, k ≤ 5 → ∀ (j : Value), Go l ro0 mX0_sidesNeeded 27 (A, G, PF) 4 [.ref 1, .int (nI s), .int (snd A s k), .int (nI k), j] [] 27 (pv (snd A s 5) (A, G, PF)) := by
  refine down 5 (fun k hk ih j => ?_)
  refine go_blk (pc2 := 6) (L2 := [.ref 1, .int (nI s), .int (snd A s k), .int (nI k), j]) (st2 := [.int 5, .int (nI k)]) (M2 := (A, G, PF)) (hs2 := []) (C := True) [(.iload_n 3, 0, 0), (.iconst 5, 0, 0)] [] (by decide +kernel) rfl trivial ?_
  refine go_cmp (cnd := .ge) (off := 78) 84 (by decide +kernel) (by decide) (fun (c1 : 5 ≤ (nI k)) => ?_) (fun (c1 : ¬ 5 ≤ (nI k)) => ?_)
  · skip
    replace c1 : 5 ≤ k := (nx_le (a := 5) (b := k) rfl rfl (by omega) (by omega)).mp c1
    refine go_blk (pc2 := 85) (L2 := [.ref 1, .int (nI s), .int (snd A s k), .int (nI k), j]) (st2 := [.int (snd A s k)]) (M2 := (A, G, PF)) (hs2 := []) (C := True) [(.iload_n 2, 0, 0)] [] (by decide +kernel) rfl trivial ?_
    exact go_reti (by decide +kernel) rfl (pve (by rw [show k = 5 by omega]))
  · skip
    replace c1 : ¬ 5 ≤ k := fun zz => c1 ((nx_le (a := 5) (b := k) rfl rfl (by omega) (by omega)).mpr zz)
    refine go_blk (pc2 := 15) (L2 := [.ref 1, .int (nI s), .int (snd A s k), .int (nI k), j]) (st2 := [.int 1, .int (((nI s) >>> ((nI k) &&& 31)) &&& 1)]) (M2 := (A, G, PF)) (hs2 := []) (C := True) [(.iload_n 1, 0, 0), (.iload_n 3, 0, 0), (.ishr, 0, 0), (.iconst 1, 0, 0), (.iand, 0, 0), (.iconst 1, 0, 0)] [] (by decide +kernel) rfl trivial ?_
    refine go_cmp (cnd := .ne) (off := 7) 22 (by decide +kernel) (by decide) (fun (c2 : ¬ (((nI s) >>> ((nI k) &&& 31)) &&& 1) = 1) => ?_) (fun (c2 : (((nI s) >>> ((nI k) &&& 31)) &&& 1) = 1) => ?_)
    · skip
      rw [bitS1 hs (by omega)] at c2
      refine go_blk (pc2 := 32) (L2 := [.ref 1, .int (nI s), .int (snd A s k), .int (nI k), .int 0]) (st2 := [.int 1, .int (A 2 k)]) (M2 := (A, G, PF)) (hs2 := []) (C := ((nI k) = nI k ∧ k < 5) ∧ True) [(.iconst 0, 0, 0), (.istore 4, 0, 0), (.aload_n 0, 0, 0), (.getfield 9, 0, 0), (.iload_n 3, 0, 0), (.iaload, 0, 0), (.iconst 1, 0, 0)] [k] (by decide +kernel) rfl ⟨⟨rfl, by omega⟩, trivial⟩ ?_
      refine go_cmp (cnd := .ne) (off := 24) 56 (by decide +kernel) (by decide) (fun (c3 : ¬ (A 2 k) = 1) => ?_) (fun (c3 : (A 2 k) = 1) => ?_)
      · skip
        refine go_blk (pc2 := 63) (L2 := [.ref 1, .int (nI s), .int (snd A s k), .int (nI k), .int 0]) (st2 := [.int 2, .int (A 2 k)]) (M2 := (A, G, PF)) (hs2 := []) (C := ((nI k) = nI k ∧ k < 5) ∧ True) [(.aload_n 0, 0, 0), (.getfield 9, 0, 0), (.iload_n 3, 0, 0), (.iaload, 0, 0), (.iconst 2, 0, 0)] [k] (by decide +kernel) rfl ⟨⟨rfl, by omega⟩, trivial⟩ ?_
        refine go_cmp (cnd := .ne) (off := 15) 78 (by decide +kernel) (by decide) (fun (c4 : ¬ (A 2 k) = 2) => ?_) (fun (c4 : (A 2 k) = 2) => ?_)
        · skip
          refine go_blk (pc2 := 81) (L2 := [.ref 1, .int (nI s), .int (snd A s k), .int ((nI k) + 1), .int 0]) (st2 := []) (M2 := (A, G, PF)) (hs2 := []) (C := True) [(.iinc 3 1, 0, 0)] [] (by decide +kernel) rfl trivial ?_
          refine go_goto (off := -77) 4 (by decide +kernel) (by decide) ?_
          exact go_as (ih (by omega) (.int 0)) rfl (by simp [snd, nI_1, *]) rfl
        · skip
          refine go_blk (pc2 := 68) (L2 := [.ref 1, .int (nI s), .int (snd A s k), .int (nI k), .int 0]) (st2 := [.int 0]) (M2 := (A, G, PF)) (hs2 := []) (C := True) [(.iload 4, 0, 0)] [] (by decide +kernel) rfl trivial ?_
          refine go_ifz (cnd := .eq) (off := 10) 78 (by decide +kernel) (by decide) (fun _ => ?_) (fun (h : ¬ (0 : Int32) = 0) => absurd h (by decide))
          refine go_blk (pc2 := 81) (L2 := [.ref 1, .int (nI s), .int (snd A s k), .int ((nI k) + 1), .int 0]) (st2 := []) (M2 := (A, G, PF)) (hs2 := []) (C := True) [(.iinc 3 1, 0, 0)] [] (by decide +kernel) rfl trivial ?_
          refine go_goto (off := -77) 4 (by decide +kernel) (by decide) ?_
          exact go_as (ih (by omega) (.int 0)) rfl (by simp [snd, nI_1, *]) rfl
      · skip
        refine go_blk (pc2 := 38) (L2 := [.ref 1, .int (nI s), .int (snd A s k), .int (nI k), .int 0]) (st2 := [.int 0, .int (snd A s k)]) (M2 := (A, G, PF)) (hs2 := []) (C := True) [(.iload_n 2, 0, 0), (.iload 4, 0, 0)] [] (by decide +kernel) rfl trivial ?_
        refine go_ifz (cnd := .eq) (off := 7) 45 (by decide +kernel) (by decide) (fun _ => ?_) (fun (h : ¬ (0 : Int32) = 0) => absurd h (by decide))
        refine go_blk (pc2 := 48) (L2 := [.ref 1, .int (nI s), .int (snd A s k), .int (nI k), .int 0]) (st2 := [.int (nI k), .int 8, .int (snd A s k)]) (M2 := (A, G, PF)) (hs2 := []) (C := True) [(.bipush 8, 0, 0), (.iload_n 3, 0, 0)] [] (by decide +kernel) rfl trivial ?_
        refine go_call (Y2 := mX5_side) (n2 := 27) (st := [.int (snd A s k)]) [] [.int 8, .int (nI k)] ck_0_45 cwX5_side rfl (by decide +kernel) rfl (fun _ => rfl) (fun h => absurd rfl h) (Nat.le_of_ble_eq_true rfl) (Or.inl rfl) (fun _ _ _ h => h) (s_X5_side l A G 8 (nI k)) (fun v M2 hp5 => ?_)
        obtain ⟨rfl, rfl⟩ := hp5
        show Go l ro0 mX0_sidesNeeded 27 (A, G, PF) 51 [.ref 1, .int (nI s), .int (snd A s k), .int (nI k), .int 0] [.int (1 <<< ((8 + (nI k)) &&& 31)), .int (snd A s k)] 27 _
        refine go_blk (pc2 := 53) (L2 := [.ref 1, .int (nI s), .int ((snd A s k) ||| (1 <<< ((8 + (nI k)) &&& 31))), .int (nI k), .int 0]) (st2 := []) (M2 := (A, G, PF)) (hs2 := []) (C := True) [(.ior, 0, 0), (.istore_n 2, 0, 0)] [] (by decide +kernel) rfl trivial ?_
        refine go_goto (off := 25) 78 (by decide +kernel) (by decide) ?_
        refine go_blk (pc2 := 81) (L2 := [.ref 1, .int (nI s), .int ((snd A s k) ||| (1 <<< ((8 + (nI k)) &&& 31))), .int ((nI k) + 1), .int 0]) (st2 := []) (M2 := (A, G, PF)) (hs2 := []) (C := True) [(.iinc 3 1, 0, 0)] [] (by decide +kernel) rfl trivial ?_
        refine go_goto (off := -77) 4 (by decide +kernel) (by decide) ?_
        exact go_as (ih (by omega) (.int 0)) rfl (by simp [snd, nI_1, *]) rfl
    · skip
      rw [bitS1 hs (by omega)] at c2
      refine go_blk (pc2 := 19) (L2 := [.ref 1, .int (nI s), .int (snd A s k), .int (nI k), j]) (st2 := [.int 1]) (M2 := (A, G, PF)) (hs2 := []) (C := True) [(.iconst 1, 0, 0)] [] (by decide +kernel) rfl trivial ?_
      refine go_goto (off := 4) 23 (by decide +kernel) (by decide) ?_
      refine go_blk (pc2 := 32) (L2 := [.ref 1, .int (nI s), .int (snd A s k), .int (nI k), .int 1]) (st2 := [.int 1, .int (A 2 k)]) (M2 := (A, G, PF)) (hs2 := []) (C := ((nI k) = nI k ∧ k < 5) ∧ True) [(.istore 4, 0, 0), (.aload_n 0, 0, 0), (.getfield 9, 0, 0), (.iload_n 3, 0, 0), (.iaload, 0, 0), (.iconst 1, 0, 0)] [k] (by decide +kernel) rfl ⟨⟨rfl, by omega⟩, trivial⟩ ?_
      refine go_cmp (cnd := .ne) (off := 24) 56 (by decide +kernel) (by decide) (fun (c6 : ¬ (A 2 k) = 1) => ?_) (fun (c6 : (A 2 k) = 1) => ?_)
      · skip
        refine go_blk (pc2 := 63) (L2 := [.ref 1, .int (nI s), .int (snd A s k), .int (nI k), .int 1]) (st2 := [.int 2, .int (A 2 k)]) (M2 := (A, G, PF)) (hs2 := []) (C := ((nI k) = nI k ∧ k < 5) ∧ True) [(.aload_n 0, 0, 0), (.getfield 9, 0, 0), (.iload_n 3, 0, 0), (.iaload, 0, 0), (.iconst 2, 0, 0)] [k] (by decide +kernel) rfl ⟨⟨rfl, by omega⟩, trivial⟩ ?_
        refine go_cmp (cnd := .ne) (off := 15) 78 (by decide +kernel) (by decide) (fun (c7 : ¬ (A 2 k) = 2) => ?_) (fun (c7 : (A 2 k) = 2) => ?_)
        · skip
          refine go_blk (pc2 := 81) (L2 := [.ref 1, .int (nI s), .int (snd A s k), .int ((nI k) + 1), .int 1]) (st2 := []) (M2 := (A, G, PF)) (hs2 := []) (C := True) [(.iinc 3 1, 0, 0)] [] (by decide +kernel) rfl trivial ?_
          refine go_goto (off := -77) 4 (by decide +kernel) (by decide) ?_
          exact go_as (ih (by omega) (.int 1)) rfl (by simp [snd, nI_1, *]) rfl
        · skip
          refine go_blk (pc2 := 68) (L2 := [.ref 1, .int (nI s), .int (snd A s k), .int (nI k), .int 1]) (st2 := [.int 1]) (M2 := (A, G, PF)) (hs2 := []) (C := True) [(.iload 4, 0, 0)] [] (by decide +kernel) rfl trivial ?_
          refine go_ifz (cnd := .eq) (off := 10) 78 (by decide +kernel) (by decide) (fun (h : (1 : Int32) = 0) => absurd h (by decide)) (fun _ => ?_)
          refine go_blk (pc2 := 73) (L2 := [.ref 1, .int (nI s), .int (snd A s k), .int (nI k), .int 1]) (st2 := [.int (nI k), .int (snd A s k)]) (M2 := (A, G, PF)) (hs2 := []) (C := True) [(.iload_n 2, 0, 0), (.iload_n 3, 0, 0)] [] (by decide +kernel) rfl trivial ?_
          refine go_call (Y2 := mX5_onPlane) (n2 := 27) (st := [.int (snd A s k)]) [] [.int (nI k)] ck_0_49 cwX5_onPlane rfl (by decide +kernel) rfl (fun _ => rfl) (fun h => absurd rfl h) (Nat.le_of_ble_eq_true rfl) (Or.inl rfl) (fun _ _ _ h => h) (s_X5_onPlane l A G (nI k)) (fun v M2 hp8 => ?_)
          obtain ⟨rfl, rfl⟩ := hp8
          show Go l ro0 mX0_sidesNeeded 27 (A, G, PF) 76 [.ref 1, .int (nI s), .int (snd A s k), .int (nI k), .int 1] [.int ((1 <<< ((0 + (nI k)) &&& 31)) ||| (1 <<< ((8 + (nI k)) &&& 31))), .int (snd A s k)] 27 _
          refine go_blk (pc2 := 81) (L2 := [.ref 1, .int (nI s), .int ((snd A s k) ||| ((1 <<< ((0 + (nI k)) &&& 31)) ||| (1 <<< ((8 + (nI k)) &&& 31)))), .int ((nI k) + 1), .int 1]) (st2 := []) (M2 := (A, G, PF)) (hs2 := []) (C := True) [(.ior, 0, 0), (.istore_n 2, 0, 0), (.iinc 3 1, 0, 0)] [] (by decide +kernel) rfl trivial ?_
          refine go_goto (off := -77) 4 (by decide +kernel) (by decide) ?_
          exact go_as (ih (by omega) (.int 1)) rfl (by simp [snd, nI_1, *]) rfl
      · skip
        refine go_blk (pc2 := 38) (L2 := [.ref 1, .int (nI s), .int (snd A s k), .int (nI k), .int 1]) (st2 := [.int 1, .int (snd A s k)]) (M2 := (A, G, PF)) (hs2 := []) (C := True) [(.iload_n 2, 0, 0), (.iload 4, 0, 0)] [] (by decide +kernel) rfl trivial ?_
        refine go_ifz (cnd := .eq) (off := 7) 45 (by decide +kernel) (by decide) (fun (h : (1 : Int32) = 0) => absurd h (by decide)) (fun _ => ?_)
        refine go_blk (pc2 := 42) (L2 := [.ref 1, .int (nI s), .int (snd A s k), .int (nI k), .int 1]) (st2 := [.int 0, .int (snd A s k)]) (M2 := (A, G, PF)) (hs2 := []) (C := True) [(.iconst 0, 0, 0)] [] (by decide +kernel) rfl trivial ?_
        refine go_goto (off := 5) 47 (by decide +kernel) (by decide) ?_
        refine go_blk (pc2 := 48) (L2 := [.ref 1, .int (nI s), .int (snd A s k), .int (nI k), .int 1]) (st2 := [.int (nI k), .int 0, .int (snd A s k)]) (M2 := (A, G, PF)) (hs2 := []) (C := True) [(.iload_n 3, 0, 0)] [] (by decide +kernel) rfl trivial ?_
        refine go_call (Y2 := mX5_side) (n2 := 27) (st := [.int (snd A s k)]) [] [.int 0, .int (nI k)] ck_0_45 cwX5_side rfl (by decide +kernel) rfl (fun _ => rfl) (fun h => absurd rfl h) (Nat.le_of_ble_eq_true rfl) (Or.inl rfl) (fun _ _ _ h => h) (s_X5_side l A G 0 (nI k)) (fun v M2 hp9 => ?_)
        obtain ⟨rfl, rfl⟩ := hp9
        show Go l ro0 mX0_sidesNeeded 27 (A, G, PF) 51 [.ref 1, .int (nI s), .int (snd A s k), .int (nI k), .int 1] [.int (1 <<< ((0 + (nI k)) &&& 31)), .int (snd A s k)] 27 _
        refine go_blk (pc2 := 53) (L2 := [.ref 1, .int (nI s), .int ((snd A s k) ||| (1 <<< ((0 + (nI k)) &&& 31))), .int (nI k), .int 1]) (st2 := []) (M2 := (A, G, PF)) (hs2 := []) (C := True) [(.ior, 0, 0), (.istore_n 2, 0, 0)] [] (by decide +kernel) rfl trivial ?_
        refine go_goto (off := 25) 78 (by decide +kernel) (by decide) ?_
        refine go_blk (pc2 := 81) (L2 := [.ref 1, .int (nI s), .int ((snd A s k) ||| (1 <<< ((0 + (nI k)) &&& 31))), .int ((nI k) + 1), .int 1]) (st2 := []) (M2 := (A, G, PF)) (hs2 := []) (C := True) [(.iinc 3 1, 0, 0)] [] (by decide +kernel) rfl trivial ?_
        refine go_goto (off := -77) 4 (by decide +kernel) (by decide) ?_
        exact go_as (ih (by omega) (.int 1)) rfl (by simp [snd, nI_1, *]) rfl
set_option maxRecDepth 100000 in
set_option maxHeartbeats 4000000 in
theorem s_X0_sidesNeeded (l : Launch) (A : Nat → Nat → Int32) (G : Nat → Nat → Int64) (s : Nat) (hs : s < 32) : Sem l mX0_sidesNeeded [.ref 1, .int (nI s)] 27 (A, G, PF) 27 (pv (snd A s 5) (A, G, PF)) := by
  refine sem_of_go (by decide) rfl (by decide) (by decide) rfl (Nat.le_of_ble_eq_true rfl) ?_
  show Go l ro0 mX0_sidesNeeded 27 (A, G, PF) 0 [.ref 1, .int (nI s), .null, .null, .null] [] 27 (pv (snd A s 5) (A, G, PF))
  refine go_blk (pc2 := 4) (L2 := [.ref 1, .int (nI s), .int 0, .int 0, .null]) (st2 := []) (M2 := (A, G, PF)) (hs2 := []) (C := True) [(.iconst 0, 0, 0), (.istore_n 2, 0, 0), (.iconst 0, 0, 0), (.istore_n 3, 0, 0)] [] (by decide +kernel) rfl trivial ?_
  exact lp_X0_sidesNeeded l A G s hs 0 (by omega) _
set_option maxRecDepth 100000 in
set_option maxHeartbeats 4000000 in
theorem lp_X0_sidesSought (l : Launch) (A : Nat → Nat → Int32) (G : Nat → Nat → Int64) (s : Nat) (hs : s < 32) : ∀ k, k ≤ 5 → ∀ (j : Value), Go l ro0 mX0_sidesSought 27 (A, G, PF) 4 [.ref 1, .int (nI s), .int (ssg A s k), .int (nI k), j] [] 27 (pv (ssg A s 5) (A, G, PF)) := by
  refine down 5 (fun k hk ih j => ?_)
  refine go_blk (pc2 := 6) (L2 := [.ref 1, .int (nI s), .int (ssg A s k), .int (nI k), j]) (st2 := [.int 5, .int (nI k)]) (M2 := (A, G, PF)) (hs2 := []) (C := True) [(.iload_n 3, 0, 0), (.iconst 5, 0, 0)] [] (by decide +kernel) rfl trivial ?_
  refine go_cmp (cnd := .ge) (off := 76) 82 (by decide +kernel) (by decide) (fun (c1 : 5 ≤ (nI k)) => ?_) (fun (c1 : ¬ 5 ≤ (nI k)) => ?_)
  · skip
    replace c1 : 5 ≤ k := (nx_le (a := 5) (b := k) rfl rfl (by omega) (by omega)).mp c1
    refine go_blk (pc2 := 83) (L2 := [.ref 1, .int (nI s), .int (ssg A s k), .int (nI k), j]) (st2 := [.int (ssg A s k)]) (M2 := (A, G, PF)) (hs2 := []) (C := True) [(.iload_n 2, 0, 0)] [] (by decide +kernel) rfl trivial ?_
    exact go_reti (by decide +kernel) rfl (pve (by rw [show k = 5 by omega]))
  · skip
    replace c1 : ¬ 5 ≤ k := fun zz => c1 ((nx_le (a := 5) (b := k) rfl rfl (by omega) (by omega)).mpr zz)
    refine go_blk (pc2 := 15) (L2 := [.ref 1, .int (nI s), .int (ssg A s k), .int (nI k), j]) (st2 := [.int 1, .int (((nI s) >>> ((nI k) &&& 31)) &&& 1)]) (M2 := (A, G, PF)) (hs2 := []) (C := True) [(.iload_n 1, 0, 0), (.iload_n 3, 0, 0), (.ishr, 0, 0), (.iconst 1, 0, 0), (.iand, 0, 0), (.iconst 1, 0, 0)] [] (by decide +kernel) rfl trivial ?_
    refine go_cmp (cnd := .ne) (off := 7) 22 (by decide +kernel) (by decide) (fun (c2 : ¬ (((nI s) >>> ((nI k) &&& 31)) &&& 1) = 1) => ?_) (fun (c2 : (((nI s) >>> ((nI k) &&& 31)) &&& 1) = 1) => ?_)
    · skip
      rw [bitS1 hs (by omega)] at c2
      refine go_blk (pc2 := 32) (L2 := [.ref 1, .int (nI s), .int (ssg A s k), .int (nI k), .int 0]) (st2 := [.int 1, .int (A 2 k)]) (M2 := (A, G, PF)) (hs2 := []) (C := ((nI k) = nI k ∧ k < 5) ∧ True) [(.iconst 0, 0, 0), (.istore 4, 0, 0), (.aload_n 0, 0, 0), (.getfield 9, 0, 0), (.iload_n 3, 0, 0), (.iaload, 0, 0), (.iconst 1, 0, 0)] [k] (by decide +kernel) rfl ⟨⟨rfl, by omega⟩, trivial⟩ ?_
      refine go_cmp (cnd := .ne) (off := 20) 52 (by decide +kernel) (by decide) (fun (c3 : ¬ (A 2 k) = 1) => ?_) (fun (c3 : (A 2 k) = 1) => ?_)
      · skip
        refine go_blk (pc2 := 59) (L2 := [.ref 1, .int (nI s), .int (ssg A s k), .int (nI k), .int 0]) (st2 := [.int 2, .int (A 2 k)]) (M2 := (A, G, PF)) (hs2 := []) (C := ((nI k) = nI k ∧ k < 5) ∧ True) [(.aload_n 0, 0, 0), (.getfield 9, 0, 0), (.iload_n 3, 0, 0), (.iaload, 0, 0), (.iconst 2, 0, 0)] [k] (by decide +kernel) rfl ⟨⟨rfl, by omega⟩, trivial⟩ ?_
        refine go_cmp (cnd := .ne) (off := 17) 76 (by decide +kernel) (by decide) (fun (c4 : ¬ (A 2 k) = 2) => ?_) (fun (c4 : (A 2 k) = 2) => ?_)
        · skip
          refine go_blk (pc2 := 79) (L2 := [.ref 1, .int (nI s), .int (ssg A s k), .int ((nI k) + 1), .int 0]) (st2 := []) (M2 := (A, G, PF)) (hs2 := []) (C := True) [(.iinc 3 1, 0, 0)] [] (by decide +kernel) rfl trivial ?_
          refine go_goto (off := -75) 4 (by decide +kernel) (by decide) ?_
          exact go_as (ih (by omega) (.int 0)) rfl (by simp [ssg, nI_1, *]) rfl
        · skip
          refine go_blk (pc2 := 64) (L2 := [.ref 1, .int (nI s), .int (ssg A s k), .int (nI k), .int 0]) (st2 := [.int 0]) (M2 := (A, G, PF)) (hs2 := []) (C := True) [(.iload 4, 0, 0)] [] (by decide +kernel) rfl trivial ?_
          refine go_ifz (cnd := .ne) (off := 12) 76 (by decide +kernel) (by decide) (fun (h : ¬ (0 : Int32) = 0) => absurd h (by decide)) (fun _ => ?_)
          refine go_blk (pc2 := 71) (L2 := [.ref 1, .int (nI s), .int (ssg A s k), .int (nI k), .int 0]) (st2 := [.int (nI k), .int 24, .int (ssg A s k)]) (M2 := (A, G, PF)) (hs2 := []) (C := True) [(.iload_n 2, 0, 0), (.bipush 24, 0, 0), (.iload_n 3, 0, 0)] [] (by decide +kernel) rfl trivial ?_
          refine go_call (Y2 := mX5_side) (n2 := 27) (st := [.int (ssg A s k)]) [] [.int 24, .int (nI k)] ck_0_45 cwX5_side rfl (by decide +kernel) rfl (fun _ => rfl) (fun h => absurd rfl h) (Nat.le_of_ble_eq_true rfl) (Or.inl rfl) (fun _ _ _ h => h) (s_X5_side l A G 24 (nI k)) (fun v M2 hp5 => ?_)
          obtain ⟨rfl, rfl⟩ := hp5
          show Go l ro0 mX0_sidesSought 27 (A, G, PF) 74 [.ref 1, .int (nI s), .int (ssg A s k), .int (nI k), .int 0] [.int (1 <<< ((24 + (nI k)) &&& 31)), .int (ssg A s k)] 27 _
          refine go_blk (pc2 := 79) (L2 := [.ref 1, .int (nI s), .int ((ssg A s k) ||| (1 <<< ((24 + (nI k)) &&& 31))), .int ((nI k) + 1), .int 0]) (st2 := []) (M2 := (A, G, PF)) (hs2 := []) (C := True) [(.ior, 0, 0), (.istore_n 2, 0, 0), (.iinc 3 1, 0, 0)] [] (by decide +kernel) rfl trivial ?_
          refine go_goto (off := -75) 4 (by decide +kernel) (by decide) ?_
          exact go_as (ih (by omega) (.int 0)) rfl (by simp [ssg, nI_1, *]) rfl
      · skip
        refine go_blk (pc2 := 37) (L2 := [.ref 1, .int (nI s), .int (ssg A s k), .int (nI k), .int 0]) (st2 := [.int 0]) (M2 := (A, G, PF)) (hs2 := []) (C := True) [(.iload 4, 0, 0)] [] (by decide +kernel) rfl trivial ?_
        refine go_ifz (cnd := .ne) (off := 15) 52 (by decide +kernel) (by decide) (fun (h : ¬ (0 : Int32) = 0) => absurd h (by decide)) (fun _ => ?_)
        refine go_blk (pc2 := 44) (L2 := [.ref 1, .int (nI s), .int (ssg A s k), .int (nI k), .int 0]) (st2 := [.int (nI k), .int 16, .int (ssg A s k)]) (M2 := (A, G, PF)) (hs2 := []) (C := True) [(.iload_n 2, 0, 0), (.bipush 16, 0, 0), (.iload_n 3, 0, 0)] [] (by decide +kernel) rfl trivial ?_
        refine go_call (Y2 := mX5_side) (n2 := 27) (st := [.int (ssg A s k)]) [] [.int 16, .int (nI k)] ck_0_45 cwX5_side rfl (by decide +kernel) rfl (fun _ => rfl) (fun h => absurd rfl h) (Nat.le_of_ble_eq_true rfl) (Or.inl rfl) (fun _ _ _ h => h) (s_X5_side l A G 16 (nI k)) (fun v M2 hp6 => ?_)
        obtain ⟨rfl, rfl⟩ := hp6
        show Go l ro0 mX0_sidesSought 27 (A, G, PF) 47 [.ref 1, .int (nI s), .int (ssg A s k), .int (nI k), .int 0] [.int (1 <<< ((16 + (nI k)) &&& 31)), .int (ssg A s k)] 27 _
        refine go_blk (pc2 := 49) (L2 := [.ref 1, .int (nI s), .int ((ssg A s k) ||| (1 <<< ((16 + (nI k)) &&& 31))), .int (nI k), .int 0]) (st2 := []) (M2 := (A, G, PF)) (hs2 := []) (C := True) [(.ior, 0, 0), (.istore_n 2, 0, 0)] [] (by decide +kernel) rfl trivial ?_
        refine go_goto (off := 27) 76 (by decide +kernel) (by decide) ?_
        refine go_blk (pc2 := 79) (L2 := [.ref 1, .int (nI s), .int ((ssg A s k) ||| (1 <<< ((16 + (nI k)) &&& 31))), .int ((nI k) + 1), .int 0]) (st2 := []) (M2 := (A, G, PF)) (hs2 := []) (C := True) [(.iinc 3 1, 0, 0)] [] (by decide +kernel) rfl trivial ?_
        refine go_goto (off := -75) 4 (by decide +kernel) (by decide) ?_
        exact go_as (ih (by omega) (.int 0)) rfl (by simp [ssg, nI_1, *]) rfl
    · skip
      rw [bitS1 hs (by omega)] at c2
      refine go_blk (pc2 := 19) (L2 := [.ref 1, .int (nI s), .int (ssg A s k), .int (nI k), j]) (st2 := [.int 1]) (M2 := (A, G, PF)) (hs2 := []) (C := True) [(.iconst 1, 0, 0)] [] (by decide +kernel) rfl trivial ?_
      refine go_goto (off := 4) 23 (by decide +kernel) (by decide) ?_
      refine go_blk (pc2 := 32) (L2 := [.ref 1, .int (nI s), .int (ssg A s k), .int (nI k), .int 1]) (st2 := [.int 1, .int (A 2 k)]) (M2 := (A, G, PF)) (hs2 := []) (C := ((nI k) = nI k ∧ k < 5) ∧ True) [(.istore 4, 0, 0), (.aload_n 0, 0, 0), (.getfield 9, 0, 0), (.iload_n 3, 0, 0), (.iaload, 0, 0), (.iconst 1, 0, 0)] [k] (by decide +kernel) rfl ⟨⟨rfl, by omega⟩, trivial⟩ ?_
      refine go_cmp (cnd := .ne) (off := 20) 52 (by decide +kernel) (by decide) (fun (c7 : ¬ (A 2 k) = 1) => ?_) (fun (c7 : (A 2 k) = 1) => ?_)
      · skip
        refine go_blk (pc2 := 59) (L2 := [.ref 1, .int (nI s), .int (ssg A s k), .int (nI k), .int 1]) (st2 := [.int 2, .int (A 2 k)]) (M2 := (A, G, PF)) (hs2 := []) (C := ((nI k) = nI k ∧ k < 5) ∧ True) [(.aload_n 0, 0, 0), (.getfield 9, 0, 0), (.iload_n 3, 0, 0), (.iaload, 0, 0), (.iconst 2, 0, 0)] [k] (by decide +kernel) rfl ⟨⟨rfl, by omega⟩, trivial⟩ ?_
        refine go_cmp (cnd := .ne) (off := 17) 76 (by decide +kernel) (by decide) (fun (c8 : ¬ (A 2 k) = 2) => ?_) (fun (c8 : (A 2 k) = 2) => ?_)
        · skip
          refine go_blk (pc2 := 79) (L2 := [.ref 1, .int (nI s), .int (ssg A s k), .int ((nI k) + 1), .int 1]) (st2 := []) (M2 := (A, G, PF)) (hs2 := []) (C := True) [(.iinc 3 1, 0, 0)] [] (by decide +kernel) rfl trivial ?_
          refine go_goto (off := -75) 4 (by decide +kernel) (by decide) ?_
          exact go_as (ih (by omega) (.int 1)) rfl (by simp [ssg, nI_1, *]) rfl
        · skip
          refine go_blk (pc2 := 64) (L2 := [.ref 1, .int (nI s), .int (ssg A s k), .int (nI k), .int 1]) (st2 := [.int 1]) (M2 := (A, G, PF)) (hs2 := []) (C := True) [(.iload 4, 0, 0)] [] (by decide +kernel) rfl trivial ?_
          refine go_ifz (cnd := .ne) (off := 12) 76 (by decide +kernel) (by decide) (fun _ => ?_) (fun (h : (1 : Int32) = 0) => absurd h (by decide))
          refine go_blk (pc2 := 79) (L2 := [.ref 1, .int (nI s), .int (ssg A s k), .int ((nI k) + 1), .int 1]) (st2 := []) (M2 := (A, G, PF)) (hs2 := []) (C := True) [(.iinc 3 1, 0, 0)] [] (by decide +kernel) rfl trivial ?_
          refine go_goto (off := -75) 4 (by decide +kernel) (by decide) ?_
          exact go_as (ih (by omega) (.int 1)) rfl (by simp [ssg, nI_1, *]) rfl
      · skip
        refine go_blk (pc2 := 37) (L2 := [.ref 1, .int (nI s), .int (ssg A s k), .int (nI k), .int 1]) (st2 := [.int 1]) (M2 := (A, G, PF)) (hs2 := []) (C := True) [(.iload 4, 0, 0)] [] (by decide +kernel) rfl trivial ?_
        refine go_ifz (cnd := .ne) (off := 15) 52 (by decide +kernel) (by decide) (fun _ => ?_) (fun (h : (1 : Int32) = 0) => absurd h (by decide))
        refine go_blk (pc2 := 59) (L2 := [.ref 1, .int (nI s), .int (ssg A s k), .int (nI k), .int 1]) (st2 := [.int 2, .int (A 2 k)]) (M2 := (A, G, PF)) (hs2 := []) (C := ((nI k) = nI k ∧ k < 5) ∧ True) [(.aload_n 0, 0, 0), (.getfield 9, 0, 0), (.iload_n 3, 0, 0), (.iaload, 0, 0), (.iconst 2, 0, 0)] [k] (by decide +kernel) rfl ⟨⟨rfl, by omega⟩, trivial⟩ ?_
        refine go_cmp (cnd := .ne) (off := 17) 76 (by decide +kernel) (by decide) (fun (c9 : ¬ (A 2 k) = 2) => ?_) (fun (c9 : (A 2 k) = 2) => ?_)
        · skip
          refine go_blk (pc2 := 79) (L2 := [.ref 1, .int (nI s), .int (ssg A s k), .int ((nI k) + 1), .int 1]) (st2 := []) (M2 := (A, G, PF)) (hs2 := []) (C := True) [(.iinc 3 1, 0, 0)] [] (by decide +kernel) rfl trivial ?_
          refine go_goto (off := -75) 4 (by decide +kernel) (by decide) ?_
          exact go_as (ih (by omega) (.int 1)) rfl (by simp [ssg, nI_1, *]) rfl
        · skip
          refine go_blk (pc2 := 64) (L2 := [.ref 1, .int (nI s), .int (ssg A s k), .int (nI k), .int 1]) (st2 := [.int 1]) (M2 := (A, G, PF)) (hs2 := []) (C := True) [(.iload 4, 0, 0)] [] (by decide +kernel) rfl trivial ?_
          refine go_ifz (cnd := .ne) (off := 12) 76 (by decide +kernel) (by decide) (fun _ => ?_) (fun (h : (1 : Int32) = 0) => absurd h (by decide))
          refine go_blk (pc2 := 79) (L2 := [.ref 1, .int (nI s), .int (ssg A s k), .int ((nI k) + 1), .int 1]) (st2 := []) (M2 := (A, G, PF)) (hs2 := []) (C := True) [(.iinc 3 1, 0, 0)] [] (by decide +kernel) rfl trivial ?_
          refine go_goto (off := -75) 4 (by decide +kernel) (by decide) ?_
          exact go_as (ih (by omega) (.int 1)) rfl (by simp [ssg, nI_1, *]) rfl
set_option maxRecDepth 100000 in
set_option maxHeartbeats 4000000 in
theorem s_X0_sidesSought (l : Launch) (A : Nat → Nat → Int32) (G : Nat → Nat → Int64) (s : Nat) (hs : s < 32) : Sem l mX0_sidesSought [.ref 1, .int (nI s)] 27 (A, G, PF) 27 (pv (ssg A s 5) (A, G, PF)) := by
  refine sem_of_go (by decide) rfl (by decide) (by decide) rfl (Nat.le_of_ble_eq_true rfl) ?_
  show Go l ro0 mX0_sidesSought 27 (A, G, PF) 0 [.ref 1, .int (nI s), .null, .null, .null] [] 27 (pv (ssg A s 5) (A, G, PF))
  refine go_blk (pc2 := 4) (L2 := [.ref 1, .int (nI s), .int 0, .int 0, .null]) (st2 := []) (M2 := (A, G, PF)) (hs2 := []) (C := True) [(.iconst 0, 0, 0), (.istore_n 2, 0, 0), (.iconst 0, 0, 0), (.istore_n 3, 0, 0)] [] (by decide +kernel) rfl trivial ?_
  exact lp_X0_sidesSought l A G s hs 0 (by omega) _
set_option maxRecDepth 100000 in
set_option maxHeartbeats 4000000 in
theorem s_X0_contradict (l : Launch) (A : Nat → Nat → Int32) (G : Nat → Nat → Int64) (s : Nat) (hs : s < 32) (p : Nat) (hp : p < 5) (kk mm : Nat) (hk : kk < 5) (hm : mm < 5) (hF : FOk A) : Sem l mX0_contradict [.ref 1, .int (nI kk), .int (nI mm), .int (nI s), .int (nI p)] 27 (A, G, PF) 27 (pv (bi (Contr A s p kk mm)) (A, G, PF)) := by
  refine sem_of_go (by decide) rfl (by decide) (by decide) rfl (Nat.le_of_ble_eq_true rfl) ?_
  show Go l ro0 mX0_contradict 27 (A, G, PF) 0 [.ref 1, .int (nI kk), .int (nI mm), .int (nI s), .int (nI p), .null, .null] [] 27 (pv (bi (Contr A s p kk mm)) (A, G, PF))
  refine go_blk (pc2 := 1) (L2 := [.ref 1, .int (nI kk), .int (nI mm), .int (nI s), .int (nI p), .null, .null]) (st2 := [.int (nI kk)]) (M2 := (A, G, PF)) (hs2 := []) (C := True) [(.iload_n 1, 0, 0)] [] (by decide +kernel) rfl trivial ?_
  refine go_call (Y2 := mX5_isAtom) (n2 := 27) (st := []) [] [.int (nI kk)] ck_0_37 cwX5_isAtom rfl (by decide +kernel) rfl (fun _ => rfl) (fun h => absurd rfl h) (Nat.le_of_ble_eq_true rfl) (Or.inl rfl) (fun _ _ _ h => h) (s_X5_isAtom l A G (nI kk)) (fun v M2 hp1 => ?_)
  obtain ⟨rfl, rfl⟩ := hp1
  rw [bi_t (atm_in (by omega))]
  show Go l ro0 mX0_contradict 27 (A, G, PF) 4 [.ref 1, .int (nI kk), .int (nI mm), .int (nI s), .int (nI p), .null, .null] [.int 1] 27 _
  refine go_ifz (cnd := .eq) (off := 30) 34 (by decide +kernel) (by decide) (fun (h : (1 : Int32) = 0) => absurd h (by decide)) (fun _ => ?_)
  refine go_blk (pc2 := 8) (L2 := [.ref 1, .int (nI kk), .int (nI mm), .int (nI s), .int (nI p), .null, .null]) (st2 := [.int (nI mm)]) (M2 := (A, G, PF)) (hs2 := []) (C := True) [(.iload_n 2, 0, 0)] [] (by decide +kernel) rfl trivial ?_
  refine go_call (Y2 := mX5_isAtom) (n2 := 27) (st := []) [] [.int (nI mm)] ck_0_37 cwX5_isAtom rfl (by decide +kernel) rfl (fun _ => rfl) (fun h => absurd rfl h) (Nat.le_of_ble_eq_true rfl) (Or.inl rfl) (fun _ _ _ h => h) (s_X5_isAtom l A G (nI mm)) (fun v M2 hp2 => ?_)
  obtain ⟨rfl, rfl⟩ := hp2
  rw [bi_t (atm_in (by omega))]
  show Go l ro0 mX0_contradict 27 (A, G, PF) 11 [.ref 1, .int (nI kk), .int (nI mm), .int (nI s), .int (nI p), .null, .null] [.int 1] 27 _
  refine go_ifz (cnd := .eq) (off := 23) 34 (by decide +kernel) (by decide) (fun (h : (1 : Int32) = 0) => absurd h (by decide)) (fun _ => ?_)
  refine go_blk (pc2 := 21) (L2 := [.ref 1, .int (nI kk), .int (nI mm), .int (nI s), .int (nI p), .null, .null]) (st2 := [.int 3, .int (A 2 kk)]) (M2 := (A, G, PF)) (hs2 := []) (C := ((nI kk) = nI kk ∧ kk < 5) ∧ True) [(.aload_n 0, 0, 0), (.getfield 9, 0, 0), (.iload_n 1, 0, 0), (.iaload, 0, 0), (.iconst 3, 0, 0)] [kk] (by decide +kernel) rfl ⟨⟨rfl, by omega⟩, trivial⟩ ?_
  refine go_cmp (cnd := .ne) (off := 13) 34 (by decide +kernel) (by decide) (fun (c3 : ¬ (A 2 kk) = 3) => ?_) (fun (c3 : (A 2 kk) = 3) => ?_)
  · skip
    refine go_blk (pc2 := 35) (L2 := [.ref 1, .int (nI kk), .int (nI mm), .int (nI s), .int (nI p), .null, .null]) (st2 := [.int 0]) (M2 := (A, G, PF)) (hs2 := []) (C := True) [(.iconst 0, 0, 0)] [] (by decide +kernel) rfl trivial ?_
    exact go_retz (by decide +kernel) rfl (Or.inl rfl) (pv0 (by simp only [Contr]; simp_all))
  · skip
    have hf1 := hF kk hk c3
    refine go_blk (pc2 := 31) (L2 := [.ref 1, .int (nI kk), .int (nI mm), .int (nI s), .int (nI p), .null, .null]) (st2 := [.int 3, .int (A 2 mm)]) (M2 := (A, G, PF)) (hs2 := []) (C := ((nI mm) = nI mm ∧ mm < 5) ∧ True) [(.aload_n 0, 0, 0), (.getfield 9, 0, 0), (.iload_n 2, 0, 0), (.iaload, 0, 0), (.iconst 3, 0, 0)] [mm] (by decide +kernel) rfl ⟨⟨rfl, by omega⟩, trivial⟩ ?_
    refine go_cmp (cnd := .eq) (off := 5) 36 (by decide +kernel) (by decide) (fun (c4 : (A 2 mm) = 3) => ?_) (fun (c4 : ¬ (A 2 mm) = 3) => ?_)
    · skip
      have hf2 := hF mm hm c4
      refine go_blk (pc2 := 42) (L2 := [.ref 1, .int (nI kk), .int (nI mm), .int (nI s), .int (nI p), .null, .null]) (st2 := [.int 1, .int (((nI s) >>> ((nI kk) &&& 31)) &&& 1)]) (M2 := (A, G, PF)) (hs2 := []) (C := True) [(.iload_n 3, 0, 0), (.iload_n 1, 0, 0), (.ishr, 0, 0), (.iconst 1, 0, 0), (.iand, 0, 0), (.iconst 1, 0, 0)] [] (by decide +kernel) rfl trivial ?_
      refine go_cmp (cnd := .ne) (off := 7) 49 (by decide +kernel) (by decide) (fun (c5 : ¬ (((nI s) >>> ((nI kk) &&& 31)) &&& 1) = 1) => ?_) (fun (c5 : (((nI s) >>> ((nI kk) &&& 31)) &&& 1) = 1) => ?_)
      · skip
        rw [bitS1 hs (by omega)] at c5
        refine go_blk (pc2 := 58) (L2 := [.ref 1, .int (nI kk), .int (nI mm), .int (nI s), .int (nI p), .int 0, .null]) (st2 := [.int 1, .int (((nI s) >>> ((nI mm) &&& 31)) &&& 1)]) (M2 := (A, G, PF)) (hs2 := []) (C := True) [(.iconst 0, 0, 0), (.istore 5, 0, 0), (.iload_n 3, 0, 0), (.iload_n 2, 0, 0), (.ishr, 0, 0), (.iconst 1, 0, 0), (.iand, 0, 0), (.iconst 1, 0, 0)] [] (by decide +kernel) rfl trivial ?_
        refine go_cmp (cnd := .ne) (off := 7) 65 (by decide +kernel) (by decide) (fun (c6 : ¬ (((nI s) >>> ((nI mm) &&& 31)) &&& 1) = 1) => ?_) (fun (c6 : (((nI s) >>> ((nI mm) &&& 31)) &&& 1) = 1) => ?_)
        · skip
          rw [bitS1 hs (by omega)] at c6
          refine go_blk (pc2 := 70) (L2 := [.ref 1, .int (nI kk), .int (nI mm), .int (nI s), .int (nI p), .int 0, .int 0]) (st2 := [.int 0]) (M2 := (A, G, PF)) (hs2 := []) (C := True) [(.iconst 0, 0, 0), (.istore 6, 0, 0), (.iload 5, 0, 0)] [] (by decide +kernel) rfl trivial ?_
          refine go_ifz (cnd := .ne) (off := 8) 78 (by decide +kernel) (by decide) (fun (h : ¬ (0 : Int32) = 0) => absurd h (by decide)) (fun _ => ?_)
          refine go_blk (pc2 := 75) (L2 := [.ref 1, .int (nI kk), .int (nI mm), .int (nI s), .int (nI p), .int 0, .int 0]) (st2 := [.int 0]) (M2 := (A, G, PF)) (hs2 := []) (C := True) [(.iload 6, 0, 0)] [] (by decide +kernel) rfl trivial ?_
          refine go_ifz (cnd := .eq) (off := 23) 98 (by decide +kernel) (by decide) (fun _ => ?_) (fun (h : ¬ (0 : Int32) = 0) => absurd h (by decide))
          refine go_blk (pc2 := 99) (L2 := [.ref 1, .int (nI kk), .int (nI mm), .int (nI s), .int (nI p), .int 0, .int 0]) (st2 := [.int 0]) (M2 := (A, G, PF)) (hs2 := []) (C := True) [(.iconst 0, 0, 0)] [] (by decide +kernel) rfl trivial ?_
          exact go_retz (by decide +kernel) rfl (Or.inl rfl) (pv0 (by simp only [Contr]; simp_all))
        · skip
          rw [bitS1 hs (by omega)] at c6
          refine go_blk (pc2 := 62) (L2 := [.ref 1, .int (nI kk), .int (nI mm), .int (nI s), .int (nI p), .int 0, .null]) (st2 := [.int 1]) (M2 := (A, G, PF)) (hs2 := []) (C := True) [(.iconst 1, 0, 0)] [] (by decide +kernel) rfl trivial ?_
          refine go_goto (off := 4) 66 (by decide +kernel) (by decide) ?_
          refine go_blk (pc2 := 70) (L2 := [.ref 1, .int (nI kk), .int (nI mm), .int (nI s), .int (nI p), .int 0, .int 1]) (st2 := [.int 0]) (M2 := (A, G, PF)) (hs2 := []) (C := True) [(.istore 6, 0, 0), (.iload 5, 0, 0)] [] (by decide +kernel) rfl trivial ?_
          refine go_ifz (cnd := .ne) (off := 8) 78 (by decide +kernel) (by decide) (fun (h : ¬ (0 : Int32) = 0) => absurd h (by decide)) (fun _ => ?_)
          refine go_blk (pc2 := 75) (L2 := [.ref 1, .int (nI kk), .int (nI mm), .int (nI s), .int (nI p), .int 0, .int 1]) (st2 := [.int 1]) (M2 := (A, G, PF)) (hs2 := []) (C := True) [(.iload 6, 0, 0)] [] (by decide +kernel) rfl trivial ?_
          refine go_ifz (cnd := .eq) (off := 23) 98 (by decide +kernel) (by decide) (fun (h : (1 : Int32) = 0) => absurd h (by decide)) (fun _ => ?_)
          refine go_blk (pc2 := 92) (L2 := [.ref 1, .int (nI kk), .int (nI mm), .int (nI s), .int (nI p), .int 0, .int 1]) (st2 := [.int (A 7 mm), .int (A 7 kk), .int (nI p)]) (M2 := (A, G, PF)) (hs2 := []) (C := ((nI kk) = nI kk ∧ kk < 5) ∧ ((nI mm) = nI mm ∧ mm < 5) ∧ True) [(.iload 4, 0, 0), (.aload_n 0, 0, 0), (.getfield 27, 0, 5), (.iload_n 1, 0, 0), (.iaload, 0, 0), (.aload_n 0, 0, 0), (.getfield 27, 0, 5), (.iload_n 2, 0, 0), (.iaload, 0, 0)] [kk, mm] (by decide +kernel) rfl ⟨⟨rfl, by omega⟩, ⟨rfl, by omega⟩, trivial⟩ ?_
          refine go_call (Y2 := mX5_areEqual) (n2 := 27) (st := []) [] [.int (nI p), .int (A 7 kk), .int (A 7 mm)] ck_0_57 cwX5_areEqual rfl (by decide +kernel) rfl (fun _ => rfl) (fun h => absurd rfl h) (Nat.le_of_ble_eq_true rfl) (Or.inl rfl) (fun _ _ _ h => h) (s_X5_areEqual l A G p (fi A kk) (fi A mm) (A 7 kk) (A 7 mm) (by omega) hf1.1.1 hf2.1.1 hf1.1.2 hf2.1.2) (fun v M2 hp7 => ?_)
          obtain ⟨rfl, rfl⟩ := hp7
          rcases Classical.em (Eq3 p (fi A kk) (fi A mm)) with hb8 | hb8
          · rw [bi_t hb8]
            show Go l ro0 mX0_contradict 27 (A, G, PF) 95 [.ref 1, .int (nI kk), .int (nI mm), .int (nI s), .int (nI p), .int 0, .int 1] [.int 1] 27 _
            refine go_ifz (cnd := .ne) (off := 5) 100 (by decide +kernel) (by decide) (fun _ => ?_) (fun (h : (1 : Int32) = 0) => absurd h (by decide))
            refine go_blk (pc2 := 114) (L2 := [.ref 1, .int (nI kk), .int (nI mm), .int (nI s), .int (nI p), .int 0, .int 1]) (st2 := [.int (A 8 mm), .int (A 8 kk), .int (nI p)]) (M2 := (A, G, PF)) (hs2 := []) (C := ((nI kk) = nI kk ∧ kk < 5) ∧ ((nI mm) = nI mm ∧ mm < 5) ∧ True) [(.iload 4, 0, 0), (.aload_n 0, 0, 0), (.getfield 30, 0, 6), (.iload_n 1, 0, 0), (.iaload, 0, 0), (.aload_n 0, 0, 0), (.getfield 30, 0, 6), (.iload_n 2, 0, 0), (.iaload, 0, 0)] [kk, mm] (by decide +kernel) rfl ⟨⟨rfl, by omega⟩, ⟨rfl, by omega⟩, trivial⟩ ?_
            refine go_call (Y2 := mX5_areEqual) (n2 := 27) (st := []) [] [.int (nI p), .int (A 8 kk), .int (A 8 mm)] ck_0_57 cwX5_areEqual rfl (by decide +kernel) rfl (fun _ => rfl) (fun h => absurd rfl h) (Nat.le_of_ble_eq_true rfl) (Or.inl rfl) (fun _ _ _ h => h) (s_X5_areEqual l A G p (fj A kk) (fj A mm) (A 8 kk) (A 8 mm) (by omega) hf1.2.1 hf2.2.1 hf1.2.2 hf2.2.2) (fun v M2 hp9 => ?_)
            obtain ⟨rfl, rfl⟩ := hp9
            rcases Classical.em (Eq3 p (fj A kk) (fj A mm)) with hb10 | hb10
            · rw [bi_t hb10]
              show Go l ro0 mX0_contradict 27 (A, G, PF) 117 [.ref 1, .int (nI kk), .int (nI mm), .int (nI s), .int (nI p), .int 0, .int 1] [.int 1] 27 _
              refine go_blk (pc2 := 119) (L2 := [.ref 1, .int (nI kk), .int (nI mm), .int (nI s), .int (nI p), .int 0, .int 1]) (st2 := [.int 0, .int 1]) (M2 := (A, G, PF)) (hs2 := []) (C := True) [(.iload 5, 0, 0)] [] (by decide +kernel) rfl trivial ?_
              refine go_ifz (cnd := .eq) (off := 12) 131 (by decide +kernel) (by decide) (fun _ => ?_) (fun (h : ¬ (0 : Int32) = 0) => absurd h (by decide))
              refine go_blk (pc2 := 132) (L2 := [.ref 1, .int (nI kk), .int (nI mm), .int (nI s), .int (nI p), .int 0, .int 1]) (st2 := [.int 0, .int 1]) (M2 := (A, G, PF)) (hs2 := []) (C := True) [(.iconst 0, 0, 0)] [] (by decide +kernel) rfl trivial ?_
              refine go_cmp (cnd := .eq) (off := 7) 139 (by decide +kernel) (by decide) (fun (h : (1 : Int32) = 0) => absurd h (by decide)) (fun _ => ?_)
              refine go_blk (pc2 := 136) (L2 := [.ref 1, .int (nI kk), .int (nI mm), .int (nI s), .int (nI p), .int 0, .int 1]) (st2 := [.int 1]) (M2 := (A, G, PF)) (hs2 := []) (C := True) [(.iconst 1, 0, 0)] [] (by decide +kernel) rfl trivial ?_
              refine go_goto (off := 4) 140 (by decide +kernel) (by decide) ?_
              exact go_retz (by decide +kernel) rfl (Or.inr rfl) (pv1 (by simp only [Contr]; simp_all))
            · rw [bi_f hb10]
              show Go l ro0 mX0_contradict 27 (A, G, PF) 117 [.ref 1, .int (nI kk), .int (nI mm), .int (nI s), .int (nI p), .int 0, .int 1] [.int 0] 27 _
              refine go_blk (pc2 := 119) (L2 := [.ref 1, .int (nI kk), .int (nI mm), .int (nI s), .int (nI p), .int 0, .int 1]) (st2 := [.int 0, .int 0]) (M2 := (A, G, PF)) (hs2 := []) (C := True) [(.iload 5, 0, 0)] [] (by decide +kernel) rfl trivial ?_
              refine go_ifz (cnd := .eq) (off := 12) 131 (by decide +kernel) (by decide) (fun _ => ?_) (fun (h : ¬ (0 : Int32) = 0) => absurd h (by decide))
              refine go_blk (pc2 := 132) (L2 := [.ref 1, .int (nI kk), .int (nI mm), .int (nI s), .int (nI p), .int 0, .int 1]) (st2 := [.int 0, .int 0]) (M2 := (A, G, PF)) (hs2 := []) (C := True) [(.iconst 0, 0, 0)] [] (by decide +kernel) rfl trivial ?_
              refine go_cmp (cnd := .eq) (off := 7) 139 (by decide +kernel) (by decide) (fun _ => ?_) (fun (h : ¬ (0 : Int32) = 0) => absurd h (by decide))
              refine go_blk (pc2 := 140) (L2 := [.ref 1, .int (nI kk), .int (nI mm), .int (nI s), .int (nI p), .int 0, .int 1]) (st2 := [.int 0]) (M2 := (A, G, PF)) (hs2 := []) (C := True) [(.iconst 0, 0, 0)] [] (by decide +kernel) rfl trivial ?_
              exact go_retz (by decide +kernel) rfl (Or.inl rfl) (pv0 (by simp only [Contr]; simp_all))
          · rw [bi_f hb8]
            show Go l ro0 mX0_contradict 27 (A, G, PF) 95 [.ref 1, .int (nI kk), .int (nI mm), .int (nI s), .int (nI p), .int 0, .int 1] [.int 0] 27 _
            refine go_ifz (cnd := .ne) (off := 5) 100 (by decide +kernel) (by decide) (fun (h : ¬ (0 : Int32) = 0) => absurd h (by decide)) (fun _ => ?_)
            refine go_blk (pc2 := 99) (L2 := [.ref 1, .int (nI kk), .int (nI mm), .int (nI s), .int (nI p), .int 0, .int 1]) (st2 := [.int 0]) (M2 := (A, G, PF)) (hs2 := []) (C := True) [(.iconst 0, 0, 0)] [] (by decide +kernel) rfl trivial ?_
            exact go_retz (by decide +kernel) rfl (Or.inl rfl) (pv0 (by simp only [Contr]; simp_all))
      · skip
        rw [bitS1 hs (by omega)] at c5
        refine go_blk (pc2 := 46) (L2 := [.ref 1, .int (nI kk), .int (nI mm), .int (nI s), .int (nI p), .null, .null]) (st2 := [.int 1]) (M2 := (A, G, PF)) (hs2 := []) (C := True) [(.iconst 1, 0, 0)] [] (by decide +kernel) rfl trivial ?_
        refine go_goto (off := 4) 50 (by decide +kernel) (by decide) ?_
        refine go_blk (pc2 := 58) (L2 := [.ref 1, .int (nI kk), .int (nI mm), .int (nI s), .int (nI p), .int 1, .null]) (st2 := [.int 1, .int (((nI s) >>> ((nI mm) &&& 31)) &&& 1)]) (M2 := (A, G, PF)) (hs2 := []) (C := True) [(.istore 5, 0, 0), (.iload_n 3, 0, 0), (.iload_n 2, 0, 0), (.ishr, 0, 0), (.iconst 1, 0, 0), (.iand, 0, 0), (.iconst 1, 0, 0)] [] (by decide +kernel) rfl trivial ?_
        refine go_cmp (cnd := .ne) (off := 7) 65 (by decide +kernel) (by decide) (fun (c11 : ¬ (((nI s) >>> ((nI mm) &&& 31)) &&& 1) = 1) => ?_) (fun (c11 : (((nI s) >>> ((nI mm) &&& 31)) &&& 1) = 1) => ?_)
        · skip
          rw [bitS1 hs (by omega)] at c11
          refine go_blk (pc2 := 70) (L2 := [.ref 1, .int (nI kk), .int (nI mm), .int (nI s), .int (nI p), .int 1, .int 0]) (st2 := [.int 1]) (M2 := (A, G, PF)) (hs2 := []) (C := True) [(.iconst 0, 0, 0), (.istore 6, 0, 0), (.iload 5, 0, 0)] [] (by decide +kernel) rfl trivial ?_
          refine go_ifz (cnd := .ne) (off := 8) 78 (by decide +kernel) (by decide) (fun _ => ?_) (fun (h : (1 : Int32) = 0) => absurd h (by decide))
          refine go_blk (pc2 := 92) (L2 := [.ref 1, .int (nI kk), .int (nI mm), .int (nI s), .int (nI p), .int 1, .int 0]) (st2 := [.int (A 7 mm), .int (A 7 kk), .int (nI p)]) (M2 := (A, G, PF)) (hs2 := []) (C := ((nI kk) = nI kk ∧ kk < 5) ∧ ((nI mm) = nI mm ∧ mm < 5) ∧ True) [(.iload 4, 0, 0), (.aload_n 0, 0, 0), (.getfield 27, 0, 5), (.iload_n 1, 0, 0), (.iaload, 0, 0), (.aload_n 0, 0, 0), (.getfield 27, 0, 5), (.iload_n 2, 0, 0), (.iaload, 0, 0)] [kk, mm] (by decide +kernel) rfl ⟨⟨rfl, by omega⟩, ⟨rfl, by omega⟩, trivial⟩ ?_
          refine go_call (Y2 := mX5_areEqual) (n2 := 27) (st := []) [] [.int (nI p), .int (A 7 kk), .int (A 7 mm)] ck_0_57 cwX5_areEqual rfl (by decide +kernel) rfl (fun _ => rfl) (fun h => absurd rfl h) (Nat.le_of_ble_eq_true rfl) (Or.inl rfl) (fun _ _ _ h => h) (s_X5_areEqual l A G p (fi A kk) (fi A mm) (A 7 kk) (A 7 mm) (by omega) hf1.1.1 hf2.1.1 hf1.1.2 hf2.1.2) (fun v M2 hp12 => ?_)
          obtain ⟨rfl, rfl⟩ := hp12
          rcases Classical.em (Eq3 p (fi A kk) (fi A mm)) with hb13 | hb13
          · rw [bi_t hb13]
            show Go l ro0 mX0_contradict 27 (A, G, PF) 95 [.ref 1, .int (nI kk), .int (nI mm), .int (nI s), .int (nI p), .int 1, .int 0] [.int 1] 27 _
            refine go_ifz (cnd := .ne) (off := 5) 100 (by decide +kernel) (by decide) (fun _ => ?_) (fun (h : (1 : Int32) = 0) => absurd h (by decide))
            refine go_blk (pc2 := 114) (L2 := [.ref 1, .int (nI kk), .int (nI mm), .int (nI s), .int (nI p), .int 1, .int 0]) (st2 := [.int (A 8 mm), .int (A 8 kk), .int (nI p)]) (M2 := (A, G, PF)) (hs2 := []) (C := ((nI kk) = nI kk ∧ kk < 5) ∧ ((nI mm) = nI mm ∧ mm < 5) ∧ True) [(.iload 4, 0, 0), (.aload_n 0, 0, 0), (.getfield 30, 0, 6), (.iload_n 1, 0, 0), (.iaload, 0, 0), (.aload_n 0, 0, 0), (.getfield 30, 0, 6), (.iload_n 2, 0, 0), (.iaload, 0, 0)] [kk, mm] (by decide +kernel) rfl ⟨⟨rfl, by omega⟩, ⟨rfl, by omega⟩, trivial⟩ ?_
            refine go_call (Y2 := mX5_areEqual) (n2 := 27) (st := []) [] [.int (nI p), .int (A 8 kk), .int (A 8 mm)] ck_0_57 cwX5_areEqual rfl (by decide +kernel) rfl (fun _ => rfl) (fun h => absurd rfl h) (Nat.le_of_ble_eq_true rfl) (Or.inl rfl) (fun _ _ _ h => h) (s_X5_areEqual l A G p (fj A kk) (fj A mm) (A 8 kk) (A 8 mm) (by omega) hf1.2.1 hf2.2.1 hf1.2.2 hf2.2.2) (fun v M2 hp14 => ?_)
            obtain ⟨rfl, rfl⟩ := hp14
            rcases Classical.em (Eq3 p (fj A kk) (fj A mm)) with hb15 | hb15
            · rw [bi_t hb15]
              show Go l ro0 mX0_contradict 27 (A, G, PF) 117 [.ref 1, .int (nI kk), .int (nI mm), .int (nI s), .int (nI p), .int 1, .int 0] [.int 1] 27 _
              refine go_blk (pc2 := 119) (L2 := [.ref 1, .int (nI kk), .int (nI mm), .int (nI s), .int (nI p), .int 1, .int 0]) (st2 := [.int 1, .int 1]) (M2 := (A, G, PF)) (hs2 := []) (C := True) [(.iload 5, 0, 0)] [] (by decide +kernel) rfl trivial ?_
              refine go_ifz (cnd := .eq) (off := 12) 131 (by decide +kernel) (by decide) (fun (h : (1 : Int32) = 0) => absurd h (by decide)) (fun _ => ?_)
              refine go_blk (pc2 := 124) (L2 := [.ref 1, .int (nI kk), .int (nI mm), .int (nI s), .int (nI p), .int 1, .int 0]) (st2 := [.int 0, .int 1]) (M2 := (A, G, PF)) (hs2 := []) (C := True) [(.iload 6, 0, 0)] [] (by decide +kernel) rfl trivial ?_
              refine go_ifz (cnd := .eq) (off := 7) 131 (by decide +kernel) (by decide) (fun _ => ?_) (fun (h : ¬ (0 : Int32) = 0) => absurd h (by decide))
              refine go_blk (pc2 := 132) (L2 := [.ref 1, .int (nI kk), .int (nI mm), .int (nI s), .int (nI p), .int 1, .int 0]) (st2 := [.int 0, .int 1]) (M2 := (A, G, PF)) (hs2 := []) (C := True) [(.iconst 0, 0, 0)] [] (by decide +kernel) rfl trivial ?_
              refine go_cmp (cnd := .eq) (off := 7) 139 (by decide +kernel) (by decide) (fun (h : (1 : Int32) = 0) => absurd h (by decide)) (fun _ => ?_)
              refine go_blk (pc2 := 136) (L2 := [.ref 1, .int (nI kk), .int (nI mm), .int (nI s), .int (nI p), .int 1, .int 0]) (st2 := [.int 1]) (M2 := (A, G, PF)) (hs2 := []) (C := True) [(.iconst 1, 0, 0)] [] (by decide +kernel) rfl trivial ?_
              refine go_goto (off := 4) 140 (by decide +kernel) (by decide) ?_
              exact go_retz (by decide +kernel) rfl (Or.inr rfl) (pv1 (by simp only [Contr]; simp_all))
            · rw [bi_f hb15]
              show Go l ro0 mX0_contradict 27 (A, G, PF) 117 [.ref 1, .int (nI kk), .int (nI mm), .int (nI s), .int (nI p), .int 1, .int 0] [.int 0] 27 _
              refine go_blk (pc2 := 119) (L2 := [.ref 1, .int (nI kk), .int (nI mm), .int (nI s), .int (nI p), .int 1, .int 0]) (st2 := [.int 1, .int 0]) (M2 := (A, G, PF)) (hs2 := []) (C := True) [(.iload 5, 0, 0)] [] (by decide +kernel) rfl trivial ?_
              refine go_ifz (cnd := .eq) (off := 12) 131 (by decide +kernel) (by decide) (fun (h : (1 : Int32) = 0) => absurd h (by decide)) (fun _ => ?_)
              refine go_blk (pc2 := 124) (L2 := [.ref 1, .int (nI kk), .int (nI mm), .int (nI s), .int (nI p), .int 1, .int 0]) (st2 := [.int 0, .int 0]) (M2 := (A, G, PF)) (hs2 := []) (C := True) [(.iload 6, 0, 0)] [] (by decide +kernel) rfl trivial ?_
              refine go_ifz (cnd := .eq) (off := 7) 131 (by decide +kernel) (by decide) (fun _ => ?_) (fun (h : ¬ (0 : Int32) = 0) => absurd h (by decide))
              refine go_blk (pc2 := 132) (L2 := [.ref 1, .int (nI kk), .int (nI mm), .int (nI s), .int (nI p), .int 1, .int 0]) (st2 := [.int 0, .int 0]) (M2 := (A, G, PF)) (hs2 := []) (C := True) [(.iconst 0, 0, 0)] [] (by decide +kernel) rfl trivial ?_
              refine go_cmp (cnd := .eq) (off := 7) 139 (by decide +kernel) (by decide) (fun _ => ?_) (fun (h : ¬ (0 : Int32) = 0) => absurd h (by decide))
              refine go_blk (pc2 := 140) (L2 := [.ref 1, .int (nI kk), .int (nI mm), .int (nI s), .int (nI p), .int 1, .int 0]) (st2 := [.int 0]) (M2 := (A, G, PF)) (hs2 := []) (C := True) [(.iconst 0, 0, 0)] [] (by decide +kernel) rfl trivial ?_
              exact go_retz (by decide +kernel) rfl (Or.inl rfl) (pv0 (by simp only [Contr]; simp_all))
          · rw [bi_f hb13]
            show Go l ro0 mX0_contradict 27 (A, G, PF) 95 [.ref 1, .int (nI kk), .int (nI mm), .int (nI s), .int (nI p), .int 1, .int 0] [.int 0] 27 _
            refine go_ifz (cnd := .ne) (off := 5) 100 (by decide +kernel) (by decide) (fun (h : ¬ (0 : Int32) = 0) => absurd h (by decide)) (fun _ => ?_)
            refine go_blk (pc2 := 99) (L2 := [.ref 1, .int (nI kk), .int (nI mm), .int (nI s), .int (nI p), .int 1, .int 0]) (st2 := [.int 0]) (M2 := (A, G, PF)) (hs2 := []) (C := True) [(.iconst 0, 0, 0)] [] (by decide +kernel) rfl trivial ?_
            exact go_retz (by decide +kernel) rfl (Or.inl rfl) (pv0 (by simp only [Contr]; simp_all))
        · skip
          rw [bitS1 hs (by omega)] at c11
          refine go_blk (pc2 := 62) (L2 := [.ref 1, .int (nI kk), .int (nI mm), .int (nI s), .int (nI p), .int 1, .null]) (st2 := [.int 1]) (M2 := (A, G, PF)) (hs2 := []) (C := True) [(.iconst 1, 0, 0)] [] (by decide +kernel) rfl trivial ?_
          refine go_goto (off := 4) 66 (by decide +kernel) (by decide) ?_
          refine go_blk (pc2 := 70) (L2 := [.ref 1, .int (nI kk), .int (nI mm), .int (nI s), .int (nI p), .int 1, .int 1]) (st2 := [.int 1]) (M2 := (A, G, PF)) (hs2 := []) (C := True) [(.istore 6, 0, 0), (.iload 5, 0, 0)] [] (by decide +kernel) rfl trivial ?_
          refine go_ifz (cnd := .ne) (off := 8) 78 (by decide +kernel) (by decide) (fun _ => ?_) (fun (h : (1 : Int32) = 0) => absurd h (by decide))
          refine go_blk (pc2 := 92) (L2 := [.ref 1, .int (nI kk), .int (nI mm), .int (nI s), .int (nI p), .int 1, .int 1]) (st2 := [.int (A 7 mm), .int (A 7 kk), .int (nI p)]) (M2 := (A, G, PF)) (hs2 := []) (C := ((nI kk) = nI kk ∧ kk < 5) ∧ ((nI mm) = nI mm ∧ mm < 5) ∧ True) [(.iload 4, 0, 0), (.aload_n 0, 0, 0), (.getfield 27, 0, 5), (.iload_n 1, 0, 0), (.iaload, 0, 0), (.aload_n 0, 0, 0), (.getfield 27, 0, 5), (.iload_n 2, 0, 0), (.iaload, 0, 0)] [kk, mm] (by decide +kernel) rfl ⟨⟨rfl, by omega⟩, ⟨rfl, by omega⟩, trivial⟩ ?_
          refine go_call (Y2 := mX5_areEqual) (n2 := 27) (st := []) [] [.int (nI p), .int (A 7 kk), .int (A 7 mm)] ck_0_57 cwX5_areEqual rfl (by decide +kernel) rfl (fun _ => rfl) (fun h => absurd rfl h) (Nat.le_of_ble_eq_true rfl) (Or.inl rfl) (fun _ _ _ h => h) (s_X5_areEqual l A G p (fi A kk) (fi A mm) (A 7 kk) (A 7 mm) (by omega) hf1.1.1 hf2.1.1 hf1.1.2 hf2.1.2) (fun v M2 hp16 => ?_)
          obtain ⟨rfl, rfl⟩ := hp16
          rcases Classical.em (Eq3 p (fi A kk) (fi A mm)) with hb17 | hb17
          · rw [bi_t hb17]
            show Go l ro0 mX0_contradict 27 (A, G, PF) 95 [.ref 1, .int (nI kk), .int (nI mm), .int (nI s), .int (nI p), .int 1, .int 1] [.int 1] 27 _
            refine go_ifz (cnd := .ne) (off := 5) 100 (by decide +kernel) (by decide) (fun _ => ?_) (fun (h : (1 : Int32) = 0) => absurd h (by decide))
            refine go_blk (pc2 := 114) (L2 := [.ref 1, .int (nI kk), .int (nI mm), .int (nI s), .int (nI p), .int 1, .int 1]) (st2 := [.int (A 8 mm), .int (A 8 kk), .int (nI p)]) (M2 := (A, G, PF)) (hs2 := []) (C := ((nI kk) = nI kk ∧ kk < 5) ∧ ((nI mm) = nI mm ∧ mm < 5) ∧ True) [(.iload 4, 0, 0), (.aload_n 0, 0, 0), (.getfield 30, 0, 6), (.iload_n 1, 0, 0), (.iaload, 0, 0), (.aload_n 0, 0, 0), (.getfield 30, 0, 6), (.iload_n 2, 0, 0), (.iaload, 0, 0)] [kk, mm] (by decide +kernel) rfl ⟨⟨rfl, by omega⟩, ⟨rfl, by omega⟩, trivial⟩ ?_
            refine go_call (Y2 := mX5_areEqual) (n2 := 27) (st := []) [] [.int (nI p), .int (A 8 kk), .int (A 8 mm)] ck_0_57 cwX5_areEqual rfl (by decide +kernel) rfl (fun _ => rfl) (fun h => absurd rfl h) (Nat.le_of_ble_eq_true rfl) (Or.inl rfl) (fun _ _ _ h => h) (s_X5_areEqual l A G p (fj A kk) (fj A mm) (A 8 kk) (A 8 mm) (by omega) hf1.2.1 hf2.2.1 hf1.2.2 hf2.2.2) (fun v M2 hp18 => ?_)
            obtain ⟨rfl, rfl⟩ := hp18
            rcases Classical.em (Eq3 p (fj A kk) (fj A mm)) with hb19 | hb19
            · rw [bi_t hb19]
              show Go l ro0 mX0_contradict 27 (A, G, PF) 117 [.ref 1, .int (nI kk), .int (nI mm), .int (nI s), .int (nI p), .int 1, .int 1] [.int 1] 27 _
              refine go_blk (pc2 := 119) (L2 := [.ref 1, .int (nI kk), .int (nI mm), .int (nI s), .int (nI p), .int 1, .int 1]) (st2 := [.int 1, .int 1]) (M2 := (A, G, PF)) (hs2 := []) (C := True) [(.iload 5, 0, 0)] [] (by decide +kernel) rfl trivial ?_
              refine go_ifz (cnd := .eq) (off := 12) 131 (by decide +kernel) (by decide) (fun (h : (1 : Int32) = 0) => absurd h (by decide)) (fun _ => ?_)
              refine go_blk (pc2 := 124) (L2 := [.ref 1, .int (nI kk), .int (nI mm), .int (nI s), .int (nI p), .int 1, .int 1]) (st2 := [.int 1, .int 1]) (M2 := (A, G, PF)) (hs2 := []) (C := True) [(.iload 6, 0, 0)] [] (by decide +kernel) rfl trivial ?_
              refine go_ifz (cnd := .eq) (off := 7) 131 (by decide +kernel) (by decide) (fun (h : (1 : Int32) = 0) => absurd h (by decide)) (fun _ => ?_)
              refine go_blk (pc2 := 128) (L2 := [.ref 1, .int (nI kk), .int (nI mm), .int (nI s), .int (nI p), .int 1, .int 1]) (st2 := [.int 1, .int 1]) (M2 := (A, G, PF)) (hs2 := []) (C := True) [(.iconst 1, 0, 0)] [] (by decide +kernel) rfl trivial ?_
              refine go_goto (off := 4) 132 (by decide +kernel) (by decide) ?_
              refine go_cmp (cnd := .eq) (off := 7) 139 (by decide +kernel) (by decide) (fun _ => ?_) (fun (h : ¬ (1 : Int32) = 1) => absurd h (by decide))
              refine go_blk (pc2 := 140) (L2 := [.ref 1, .int (nI kk), .int (nI mm), .int (nI s), .int (nI p), .int 1, .int 1]) (st2 := [.int 0]) (M2 := (A, G, PF)) (hs2 := []) (C := True) [(.iconst 0, 0, 0)] [] (by decide +kernel) rfl trivial ?_
              exact go_retz (by decide +kernel) rfl (Or.inl rfl) (pv0 (by simp only [Contr]; simp_all))
            · rw [bi_f hb19]
              show Go l ro0 mX0_contradict 27 (A, G, PF) 117 [.ref 1, .int (nI kk), .int (nI mm), .int (nI s), .int (nI p), .int 1, .int 1] [.int 0] 27 _
              refine go_blk (pc2 := 119) (L2 := [.ref 1, .int (nI kk), .int (nI mm), .int (nI s), .int (nI p), .int 1, .int 1]) (st2 := [.int 1, .int 0]) (M2 := (A, G, PF)) (hs2 := []) (C := True) [(.iload 5, 0, 0)] [] (by decide +kernel) rfl trivial ?_
              refine go_ifz (cnd := .eq) (off := 12) 131 (by decide +kernel) (by decide) (fun (h : (1 : Int32) = 0) => absurd h (by decide)) (fun _ => ?_)
              refine go_blk (pc2 := 124) (L2 := [.ref 1, .int (nI kk), .int (nI mm), .int (nI s), .int (nI p), .int 1, .int 1]) (st2 := [.int 1, .int 0]) (M2 := (A, G, PF)) (hs2 := []) (C := True) [(.iload 6, 0, 0)] [] (by decide +kernel) rfl trivial ?_
              refine go_ifz (cnd := .eq) (off := 7) 131 (by decide +kernel) (by decide) (fun (h : (1 : Int32) = 0) => absurd h (by decide)) (fun _ => ?_)
              refine go_blk (pc2 := 128) (L2 := [.ref 1, .int (nI kk), .int (nI mm), .int (nI s), .int (nI p), .int 1, .int 1]) (st2 := [.int 1, .int 0]) (M2 := (A, G, PF)) (hs2 := []) (C := True) [(.iconst 1, 0, 0)] [] (by decide +kernel) rfl trivial ?_
              refine go_goto (off := 4) 132 (by decide +kernel) (by decide) ?_
              refine go_cmp (cnd := .eq) (off := 7) 139 (by decide +kernel) (by decide) (fun (h : (0 : Int32) = 1) => absurd h (by decide)) (fun _ => ?_)
              refine go_blk (pc2 := 136) (L2 := [.ref 1, .int (nI kk), .int (nI mm), .int (nI s), .int (nI p), .int 1, .int 1]) (st2 := [.int 1]) (M2 := (A, G, PF)) (hs2 := []) (C := True) [(.iconst 1, 0, 0)] [] (by decide +kernel) rfl trivial ?_
              refine go_goto (off := 4) 140 (by decide +kernel) (by decide) ?_
              exact go_retz (by decide +kernel) rfl (Or.inr rfl) (pv1 (by simp only [Contr]; simp_all))
          · rw [bi_f hb17]
            show Go l ro0 mX0_contradict 27 (A, G, PF) 95 [.ref 1, .int (nI kk), .int (nI mm), .int (nI s), .int (nI p), .int 1, .int 1] [.int 0] 27 _
            refine go_ifz (cnd := .ne) (off := 5) 100 (by decide +kernel) (by decide) (fun (h : ¬ (0 : Int32) = 0) => absurd h (by decide)) (fun _ => ?_)
            refine go_blk (pc2 := 99) (L2 := [.ref 1, .int (nI kk), .int (nI mm), .int (nI s), .int (nI p), .int 1, .int 1]) (st2 := [.int 0]) (M2 := (A, G, PF)) (hs2 := []) (C := True) [(.iconst 0, 0, 0)] [] (by decide +kernel) rfl trivial ?_
            exact go_retz (by decide +kernel) rfl (Or.inl rfl) (pv0 (by simp only [Contr]; simp_all))
    · skip
      refine go_blk (pc2 := 35) (L2 := [.ref 1, .int (nI kk), .int (nI mm), .int (nI s), .int (nI p), .null, .null]) (st2 := [.int 0]) (M2 := (A, G, PF)) (hs2 := []) (C := True) [(.iconst 0, 0, 0)] [] (by decide +kernel) rfl trivial ?_
      exact go_retz (by decide +kernel) rfl (Or.inl rfl) (pv0 (by simp only [Contr]; simp_all))
set_option maxRecDepth 100000 in
set_option maxHeartbeats 4000000 in
theorem li_X0_hasFunction (l : Launch) (A : Nat → Nat → Int32) (G : Nat → Nat → Int64) (s : Nat) (hs : s < 32) (p : Nat) (hp : p < 5) (hF : FOk A) (k : Nat) (hk5 : k < 5) (hall : ∀ k2, k2 < k → ∀ m, m < k2 → ¬ Contr A s p k2 m) (hout : (∀ m, m < k → ¬ Contr A s p k m) → ∀ j : Value, Go l ro0 mX0_hasFunction 27 (A, G, PF) 2 [.ref 1, .int (nI s), .int (nI p), .int (nI (k + 1)), j] [] 27 (pv (bi (HasF A s p)) (A, G, PF))) : ∀ m, m ≤ k → (∀ m2, m2 < m → ¬ Contr A s p k m2) → Go l ro0 mX0_hasFunction 27 (A, G, PF) 10 [.ref 1, .int (nI s), .int (nI p), .int (nI k), .int (nI m)] [] 27 (pv (bi (HasF A s p)) (A, G, PF)) := by
  refine down k (fun m hk ih hinv  => ?_)
  refine go_blk (pc2 := 13) (L2 := [.ref 1, .int (nI s), .int (nI p), .int (nI k), .int (nI m)]) (st2 := [.int (nI k), .int (nI m)]) (M2 := (A, G, PF)) (hs2 := []) (C := True) [(.iload 4, 0, 0), (.iload_n 3, 0, 0)] [] (by decide +kernel) rfl trivial ?_
  refine go_cmp (cnd := .ge) (off := 23) 36 (by decide +kernel) (by decide) (fun (c1 : (nI k) ≤ (nI m)) => ?_) (fun (c1 : ¬ (nI k) ≤ (nI m)) => ?_)
  · skip
    replace c1 : k ≤ m := (nx_le (a := k) (b := m) rfl rfl (by omega) (by omega)).mp c1
    refine go_blk (pc2 := 39) (L2 := [.ref 1, .int (nI s), .int (nI p), .int ((nI k) + 1), .int (nI m)]) (st2 := []) (M2 := (A, G, PF)) (hs2 := []) (C := True) [(.iinc 3 1, 0, 0)] [] (by decide +kernel) rfl trivial ?_
    refine go_goto (off := -37) 2 (by decide +kernel) (by decide) ?_
    exact go_as (hout (fun m2 h2 => hinv m2 (by omega)) (.int (nI m))) rfl (by simp only [nI_1]) rfl
  · skip
    replace c1 : ¬ k ≤ m := fun zz => c1 ((nx_le (a := k) (b := m) rfl rfl (by omega) (by omega)).mpr zz)
    refine go_blk (pc2 := 22) (L2 := [.ref 1, .int (nI s), .int (nI p), .int (nI k), .int (nI m)]) (st2 := [.int (nI p), .int (nI s), .int (nI m), .int (nI k), .ref 1]) (M2 := (A, G, PF)) (hs2 := []) (C := True) [(.aload_n 0, 0, 0), (.iload_n 3, 0, 0), (.iload 4, 0, 0), (.iload_n 1, 0, 0), (.iload_n 2, 0, 0)] [] (by decide +kernel) rfl trivial ?_
    refine go_call (Y2 := mX0_contradict) (n2 := 27) (st := []) [.ref 1] [.int (nI k), .int (nI m), .int (nI s), .int (nI p)] ck_0_53 cwX0_contradict rfl (by decide +kernel) rfl (fun h => absurd h (by decide)) (fun _ => ⟨1, rfl, by decide, rfl⟩) (Nat.le_of_ble_eq_true rfl) (Or.inl rfl) (fun _ _ _ h => h) (s_X0_contradict l A G s hs p hp k m (by omega) (by omega) hF) (fun v M2 hp2 => ?_)
    obtain ⟨rfl, rfl⟩ := hp2
    rcases Classical.em (Contr A s p k m) with hb3 | hb3
    · rw [bi_t hb3]
      show Go l ro0 mX0_hasFunction 27 (A, G, PF) 25 [.ref 1, .int (nI s), .int (nI p), .int (nI k), .int (nI m)] [.int 1] 27 _
      refine go_ifz (cnd := .eq) (off := 5) 30 (by decide +kernel) (by decide) (fun (h : (1 : Int32) = 0) => absurd h (by decide)) (fun _ => ?_)
      refine go_blk (pc2 := 29) (L2 := [.ref 1, .int (nI s), .int (nI p), .int (nI k), .int (nI m)]) (st2 := [.int 0]) (M2 := (A, G, PF)) (hs2 := []) (C := True) [(.iconst 0, 0, 0)] [] (by decide +kernel) rfl trivial ?_
      exact go_retz (by decide +kernel) rfl (Or.inl rfl) (pv0 (fun q => q k hk5 m (by omega) (by assumption)))
    · rw [bi_f hb3]
      show Go l ro0 mX0_hasFunction 27 (A, G, PF) 25 [.ref 1, .int (nI s), .int (nI p), .int (nI k), .int (nI m)] [.int 0] 27 _
      refine go_ifz (cnd := .eq) (off := 5) 30 (by decide +kernel) (by decide) (fun _ => ?_) (fun (h : ¬ (0 : Int32) = 0) => absurd h (by decide))
      refine go_blk (pc2 := 33) (L2 := [.ref 1, .int (nI s), .int (nI p), .int (nI k), .int ((nI m) + 1)]) (st2 := []) (M2 := (A, G, PF)) (hs2 := []) (C := True) [(.iinc 4 1, 0, 0)] [] (by decide +kernel) rfl trivial ?_
      refine go_goto (off := -23) 10 (by decide +kernel) (by decide) ?_
      exact go_as (ih (by omega) (fun m2 h2 => by by_cases e : m2 = m; (subst e; assumption); exact hinv m2 (by omega)) ) rfl (by simp only [nI_1]) rfl
set_option maxRecDepth 100000 in
set_option maxHeartbeats 4000000 in
theorem lo_X0_hasFunction (l : Launch) (A : Nat → Nat → Int32) (G : Nat → Nat → Int64) (s : Nat) (hs : s < 32) (p : Nat) (hp : p < 5) (hF : FOk A) : ∀ k, k ≤ 5 → (∀ k2, k2 < k → ∀ m, m < k2 → ¬ Contr A s p k2 m) → ∀ (j : Value), Go l ro0 mX0_hasFunction 27 (A, G, PF) 2 [.ref 1, .int (nI s), .int (nI p), .int (nI k), j] [] 27 (pv (bi (HasF A s p)) (A, G, PF)) := by
  refine down 5 (fun k hk ih hinv j => ?_)
  refine go_blk (pc2 := 4) (L2 := [.ref 1, .int (nI s), .int (nI p), .int (nI k), j]) (st2 := [.int 5, .int (nI k)]) (M2 := (A, G, PF)) (hs2 := []) (C := True) [(.iload_n 3, 0, 0), (.iconst 5, 0, 0)] [] (by decide +kernel) rfl trivial ?_
  refine go_cmp (cnd := .ge) (off := 38) 42 (by decide +kernel) (by decide) (fun (c1 : 5 ≤ (nI k)) => ?_) (fun (c1 : ¬ 5 ≤ (nI k)) => ?_)
  · skip
    replace c1 : 5 ≤ k := (nx_le (a := 5) (b := k) rfl rfl (by omega) (by omega)).mp c1
    refine go_blk (pc2 := 43) (L2 := [.ref 1, .int (nI s), .int (nI p), .int (nI k), j]) (st2 := [.int 1]) (M2 := (A, G, PF)) (hs2 := []) (C := True) [(.iconst 1, 0, 0)] [] (by decide +kernel) rfl trivial ?_
    exact go_retz (by decide +kernel) rfl (Or.inr rfl) (pv1 (fun k2 h2 => hinv k2 (by omega)))
  · skip
    replace c1 : ¬ 5 ≤ k := fun zz => c1 ((nx_le (a := 5) (b := k) rfl rfl (by omega) (by omega)).mpr zz)
    refine go_blk (pc2 := 10) (L2 := [.ref 1, .int (nI s), .int (nI p), .int (nI k), .int 0]) (st2 := []) (M2 := (A, G, PF)) (hs2 := []) (C := True) [(.iconst 0, 0, 0), (.istore 4, 0, 0)] [] (by decide +kernel) rfl trivial ?_
    exact li_X0_hasFunction l A G s hs p hp hF k (by omega) hinv (fun h j2 => ih (by omega) (fun k2 h2 => by by_cases e : k2 = k; (subst e; exact h); exact hinv k2 (by omega)) j2) 0 (by omega) (fun m2 h2 => absurd h2 (by omega))
set_option maxRecDepth 100000 in
set_option maxHeartbeats 4000000 in
theorem s_X0_hasFunction (l : Launch) (A : Nat → Nat → Int32) (G : Nat → Nat → Int64) (s : Nat) (hs : s < 32) (p : Nat) (hp : p < 5) (hF : FOk A) : Sem l mX0_hasFunction [.ref 1, .int (nI s), .int (nI p)] 27 (A, G, PF) 27 (pv (bi (HasF A s p)) (A, G, PF)) := by
  refine sem_of_go (by decide) rfl (by decide) (by decide) rfl (Nat.le_of_ble_eq_true rfl) ?_
  show Go l ro0 mX0_hasFunction 27 (A, G, PF) 0 [.ref 1, .int (nI s), .int (nI p), .null, .null] [] 27 (pv (bi (HasF A s p)) (A, G, PF))
  refine go_blk (pc2 := 2) (L2 := [.ref 1, .int (nI s), .int (nI p), .int 0, .null]) (st2 := []) (M2 := (A, G, PF)) (hs2 := []) (C := True) [(.iconst 0, 0, 0), (.istore_n 3, 0, 0)] [] (by decide +kernel) rfl trivial ?_
  exact lo_X0_hasFunction l A G s hs p hp hF 0 (by omega) (fun k2 h2 => absurd h2 (by omega)) _
set_option maxRecDepth 100000 in
set_option maxHeartbeats 4000000 in
theorem lp_X1_pairsNeeded (l : Launch) (A : Nat → Nat → Int32) (G : Nat → Nat → Int64) (p : Nat) (hp : p < 5) : ∀ t, t ≤ 3 → Go l ro0 mX1_pairsNeeded 27 (A, G, PF) 4 [.int (nI p), .int (pnd p t), .int (nI t)] [] 27 (pv (pnd p 3) (A, G, PF)) := by
  refine down 3 (fun t hk ih  => ?_)
  refine go_blk (pc2 := 6) (L2 := [.int (nI p), .int (pnd p t), .int (nI t)]) (st2 := [.int 3, .int (nI t)]) (M2 := (A, G, PF)) (hs2 := []) (C := True) [(.iload_n 2, 0, 0), (.iconst 3, 0, 0)] [] (by decide +kernel) rfl trivial ?_
  refine go_cmp (cnd := .ge) (off := 35) 41 (by decide +kernel) (by decide) (fun (c1 : 3 ≤ (nI t)) => ?_) (fun (c1 : ¬ 3 ≤ (nI t)) => ?_)
  · skip
    replace c1 : 3 ≤ t := (nx_le (a := 3) (b := t) rfl rfl (by omega) (by omega)).mp c1
    refine go_blk (pc2 := 42) (L2 := [.int (nI p), .int (pnd p t), .int (nI t)]) (st2 := [.int (pnd p t)]) (M2 := (A, G, PF)) (hs2 := []) (C := True) [(.iload_n 1, 0, 0)] [] (by decide +kernel) rfl trivial ?_
    exact go_reti (by decide +kernel) rfl (pve (by rw [show t = 3 by omega]))
  · skip
    replace c1 : ¬ 3 ≤ t := fun zz => c1 ((nx_le (a := 3) (b := t) rfl rfl (by omega) (by omega)).mpr zz)
    refine go_blk (pc2 := 20) (L2 := [.int (nI p), .int (pnd p t), .int (nI t)]) (st2 := [.int (rov 101 t), .int (rov 100 t), .int (nI p)]) (M2 := (A, G, PF)) (hs2 := []) (C := ((nI t) = nI t ∧ t < 3) ∧ ((nI t) = nI t ∧ t < 3) ∧ True) [(.iload_n 0, 0, 0), (.getstatic 61, 100, 0), (.iload_n 2, 0, 0), (.iaload, 0, 0), (.getstatic 64, 101, 0), (.iload_n 2, 0, 0), (.iaload, 0, 0)] [t, t] (by decide +kernel) rfl ⟨⟨rfl, by omega⟩, ⟨rfl, by omega⟩, trivial⟩ ?_
    refine go_call (Y2 := mX5_areEqual) (n2 := 27) (st := []) [] [.int (nI p), .int (rov 100 t), .int (rov 101 t)] ck_1_67 cwX5_areEqual rfl (by decide +kernel) rfl (fun _ => rfl) (fun h => absurd rfl h) (Nat.le_of_ble_eq_true rfl) (Or.inl rfl) (fun _ _ _ h => h) (s_X5_areEqual l A G p (prt 100 t) (prt 101 t) (rov 100 t) (rov 101 t) (by omega) (prt_ok t (by omega)).2.2.1 (prt_ok t (by omega)).2.2.2 (prt_ok t (by omega)).1 (prt_ok t (by omega)).2.1) (fun v M2 hp2 => ?_)
    obtain ⟨rfl, rfl⟩ := hp2
    rcases Classical.em (Eq3 p (prt 100 t) (prt 101 t)) with hb3 | hb3
    · rw [bi_t hb3]
      show Go l ro0 mX1_pairsNeeded 27 (A, G, PF) 23 [.int (nI p), .int (pnd p t), .int (nI t)] [.int 1] 27 _
      refine go_ifz (cnd := .eq) (off := 12) 35 (by decide +kernel) (by decide) (fun (h : (1 : Int32) = 0) => absurd h (by decide)) (fun _ => ?_)
      refine go_blk (pc2 := 30) (L2 := [.int (nI p), .int (pnd p t), .int (nI t)]) (st2 := [.int (5 + (nI t)), .int (pnd p t)]) (M2 := (A, G, PF)) (hs2 := []) (C := True) [(.iload_n 1, 0, 0), (.iconst 5, 0, 0), (.iload_n 2, 0, 0), (.iadd, 0, 0)] [] (by decide +kernel) rfl trivial ?_
      refine go_call (Y2 := mX5_onPlane) (n2 := 27) (st := [.int (pnd p t)]) [] [.int (5 + (nI t))] ck_1_71 cwX5_onPlane rfl (by decide +kernel) rfl (fun _ => rfl) (fun h => absurd rfl h) (Nat.le_of_ble_eq_true rfl) (Or.inl rfl) (fun _ _ _ h => h) (s_X5_onPlane l A G (5 + (nI t))) (fun v M2 hp4 => ?_)
      obtain ⟨rfl, rfl⟩ := hp4
      show Go l ro0 mX1_pairsNeeded 27 (A, G, PF) 33 [.int (nI p), .int (pnd p t), .int (nI t)] [.int ((1 <<< ((0 + (5 + (nI t))) &&& 31)) ||| (1 <<< ((8 + (5 + (nI t))) &&& 31))), .int (pnd p t)] 27 _
      refine go_blk (pc2 := 38) (L2 := [.int (nI p), .int ((pnd p t) ||| ((1 <<< ((0 + (5 + (nI t))) &&& 31)) ||| (1 <<< ((8 + (5 + (nI t))) &&& 31)))), .int ((nI t) + 1)]) (st2 := []) (M2 := (A, G, PF)) (hs2 := []) (C := True) [(.ior, 0, 0), (.istore_n 1, 0, 0), (.iinc 2 1, 0, 0)] [] (by decide +kernel) rfl trivial ?_
      refine go_goto (off := -34) 4 (by decide +kernel) (by decide) ?_
      exact go_as (ih (by omega) ) rfl (by first | rw [pnd_t (by assumption), nI_1] | rw [pnd_f (by assumption), nI_1]) rfl
    · rw [bi_f hb3]
      show Go l ro0 mX1_pairsNeeded 27 (A, G, PF) 23 [.int (nI p), .int (pnd p t), .int (nI t)] [.int 0] 27 _
      refine go_ifz (cnd := .eq) (off := 12) 35 (by decide +kernel) (by decide) (fun _ => ?_) (fun (h : ¬ (0 : Int32) = 0) => absurd h (by decide))
      refine go_blk (pc2 := 38) (L2 := [.int (nI p), .int (pnd p t), .int ((nI t) + 1)]) (st2 := []) (M2 := (A, G, PF)) (hs2 := []) (C := True) [(.iinc 2 1, 0, 0)] [] (by decide +kernel) rfl trivial ?_
      refine go_goto (off := -34) 4 (by decide +kernel) (by decide) ?_
      exact go_as (ih (by omega) ) rfl (by first | rw [pnd_t (by assumption), nI_1] | rw [pnd_f (by assumption), nI_1]) rfl
set_option maxRecDepth 100000 in
set_option maxHeartbeats 4000000 in
theorem s_X1_pairsNeeded (l : Launch) (A : Nat → Nat → Int32) (G : Nat → Nat → Int64) (p : Nat) (hp : p < 5) : Sem l mX1_pairsNeeded [.int (nI p)] 27 (A, G, PF) 27 (pv (pnd p 3) (A, G, PF)) := by
  refine sem_of_go (by decide) rfl (by decide) (by decide) rfl (Nat.le_of_ble_eq_true rfl) ?_
  show Go l ro0 mX1_pairsNeeded 27 (A, G, PF) 0 [.int (nI p), .null, .null] [] 27 (pv (pnd p 3) (A, G, PF))
  refine go_blk (pc2 := 4) (L2 := [.int (nI p), .int 0, .int 0]) (st2 := []) (M2 := (A, G, PF)) (hs2 := []) (C := True) [(.iconst 0, 0, 0), (.istore_n 1, 0, 0), (.iconst 0, 0, 0), (.istore_n 2, 0, 0)] [] (by decide +kernel) rfl trivial ?_
  exact lp_X1_pairsNeeded l A G p hp 0 (by omega)
set_option maxRecDepth 100000 in
set_option maxHeartbeats 4000000 in
theorem lp_X1_pairsSought (l : Launch) (A : Nat → Nat → Int32) (G : Nat → Nat → Int64) (p : Nat) (hp : p < 5) : ∀ t, t ≤ 3 → Go l ro0 mX1_pairsSought 27 (A, G, PF) 4 [.int (nI p), .int (psg p t), .int (nI t)] [] 27 (pv (psg p 3) (A, G, PF)) := by
  refine down 3 (fun t hk ih  => ?_)
  refine go_blk (pc2 := 6) (L2 := [.int (nI p), .int (psg p t), .int (nI t)]) (st2 := [.int 3, .int (nI t)]) (M2 := (A, G, PF)) (hs2 := []) (C := True) [(.iload_n 2, 0, 0), (.iconst 3, 0, 0)] [] (by decide +kernel) rfl trivial ?_
  refine go_cmp (cnd := .ge) (off := 37) 43 (by decide +kernel) (by decide) (fun (c1 : 3 ≤ (nI t)) => ?_) (fun (c1 : ¬ 3 ≤ (nI t)) => ?_)
  · skip
    replace c1 : 3 ≤ t := (nx_le (a := 3) (b := t) rfl rfl (by omega) (by omega)).mp c1
    refine go_blk (pc2 := 44) (L2 := [.int (nI p), .int (psg p t), .int (nI t)]) (st2 := [.int (psg p t)]) (M2 := (A, G, PF)) (hs2 := []) (C := True) [(.iload_n 1, 0, 0)] [] (by decide +kernel) rfl trivial ?_
    exact go_reti (by decide +kernel) rfl (pve (by rw [show t = 3 by omega]))
  · skip
    replace c1 : ¬ 3 ≤ t := fun zz => c1 ((nx_le (a := 3) (b := t) rfl rfl (by omega) (by omega)).mpr zz)
    refine go_blk (pc2 := 20) (L2 := [.int (nI p), .int (psg p t), .int (nI t)]) (st2 := [.int (rov 101 t), .int (rov 100 t), .int (nI p)]) (M2 := (A, G, PF)) (hs2 := []) (C := ((nI t) = nI t ∧ t < 3) ∧ ((nI t) = nI t ∧ t < 3) ∧ True) [(.iload_n 0, 0, 0), (.getstatic 61, 100, 0), (.iload_n 2, 0, 0), (.iaload, 0, 0), (.getstatic 64, 101, 0), (.iload_n 2, 0, 0), (.iaload, 0, 0)] [t, t] (by decide +kernel) rfl ⟨⟨rfl, by omega⟩, ⟨rfl, by omega⟩, trivial⟩ ?_
    refine go_call (Y2 := mX5_areEqual) (n2 := 27) (st := []) [] [.int (nI p), .int (rov 100 t), .int (rov 101 t)] ck_1_67 cwX5_areEqual rfl (by decide +kernel) rfl (fun _ => rfl) (fun h => absurd rfl h) (Nat.le_of_ble_eq_true rfl) (Or.inl rfl) (fun _ _ _ h => h) (s_X5_areEqual l A G p (prt 100 t) (prt 101 t) (rov 100 t) (rov 101 t) (by omega) (prt_ok t (by omega)).2.2.1 (prt_ok t (by omega)).2.2.2 (prt_ok t (by omega)).1 (prt_ok t (by omega)).2.1) (fun v M2 hp2 => ?_)
    obtain ⟨rfl, rfl⟩ := hp2
    rcases Classical.em (Eq3 p (prt 100 t) (prt 101 t)) with hb3 | hb3
    · rw [bi_t hb3]
      show Go l ro0 mX1_pairsSought 27 (A, G, PF) 23 [.int (nI p), .int (psg p t), .int (nI t)] [.int 1] 27 _
      refine go_ifz (cnd := .ne) (off := 14) 37 (by decide +kernel) (by decide) (fun _ => ?_) (fun (h : (1 : Int32) = 0) => absurd h (by decide))
      refine go_blk (pc2 := 40) (L2 := [.int (nI p), .int (psg p t), .int ((nI t) + 1)]) (st2 := []) (M2 := (A, G, PF)) (hs2 := []) (C := True) [(.iinc 2 1, 0, 0)] [] (by decide +kernel) rfl trivial ?_
      refine go_goto (off := -36) 4 (by decide +kernel) (by decide) ?_
      exact go_as (ih (by omega) ) rfl (by first | rw [psg_t (by assumption), nI_1] | rw [psg_f (by assumption), nI_1]) rfl
    · rw [bi_f hb3]
      show Go l ro0 mX1_pairsSought 27 (A, G, PF) 23 [.int (nI p), .int (psg p t), .int (nI t)] [.int 0] 27 _
      refine go_ifz (cnd := .ne) (off := 14) 37 (by decide +kernel) (by decide) (fun (h : ¬ (0 : Int32) = 0) => absurd h (by decide)) (fun _ => ?_)
      refine go_blk (pc2 := 32) (L2 := [.int (nI p), .int (psg p t), .int (nI t)]) (st2 := [.int (5 + (nI t)), .int 24, .int (psg p t)]) (M2 := (A, G, PF)) (hs2 := []) (C := True) [(.iload_n 1, 0, 0), (.bipush 24, 0, 0), (.iconst 5, 0, 0), (.iload_n 2, 0, 0), (.iadd, 0, 0)] [] (by decide +kernel) rfl trivial ?_
      refine go_call (Y2 := mX5_side) (n2 := 27) (st := [.int (psg p t)]) [] [.int 24, .int (5 + (nI t))] ck_1_74 cwX5_side rfl (by decide +kernel) rfl (fun _ => rfl) (fun h => absurd rfl h) (Nat.le_of_ble_eq_true rfl) (Or.inl rfl) (fun _ _ _ h => h) (s_X5_side l A G 24 (5 + (nI t))) (fun v M2 hp4 => ?_)
      obtain ⟨rfl, rfl⟩ := hp4
      show Go l ro0 mX1_pairsSought 27 (A, G, PF) 35 [.int (nI p), .int (psg p t), .int (nI t)] [.int (1 <<< ((24 + (5 + (nI t))) &&& 31)), .int (psg p t)] 27 _
      refine go_blk (pc2 := 40) (L2 := [.int (nI p), .int ((psg p t) ||| (1 <<< ((24 + (5 + (nI t))) &&& 31))), .int ((nI t) + 1)]) (st2 := []) (M2 := (A, G, PF)) (hs2 := []) (C := True) [(.ior, 0, 0), (.istore_n 1, 0, 0), (.iinc 2 1, 0, 0)] [] (by decide +kernel) rfl trivial ?_
      refine go_goto (off := -36) 4 (by decide +kernel) (by decide) ?_
      exact go_as (ih (by omega) ) rfl (by first | rw [psg_t (by assumption), nI_1] | rw [psg_f (by assumption), nI_1]) rfl
set_option maxRecDepth 100000 in
set_option maxHeartbeats 4000000 in
theorem s_X1_pairsSought (l : Launch) (A : Nat → Nat → Int32) (G : Nat → Nat → Int64) (p : Nat) (hp : p < 5) : Sem l mX1_pairsSought [.int (nI p)] 27 (A, G, PF) 27 (pv (psg p 3) (A, G, PF)) := by
  refine sem_of_go (by decide) rfl (by decide) (by decide) rfl (Nat.le_of_ble_eq_true rfl) ?_
  show Go l ro0 mX1_pairsSought 27 (A, G, PF) 0 [.int (nI p), .null, .null] [] 27 (pv (psg p 3) (A, G, PF))
  refine go_blk (pc2 := 4) (L2 := [.int (nI p), .int 0, .int 0]) (st2 := []) (M2 := (A, G, PF)) (hs2 := []) (C := True) [(.iconst 0, 0, 0), (.istore_n 1, 0, 0), (.iconst 0, 0, 0), (.istore_n 2, 0, 0)] [] (by decide +kernel) rfl trivial ?_
  exact lp_X1_pairsSought l A G p hp 0 (by omega)
