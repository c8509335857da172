def mset (A : Nat → Nat → Int32) (kk : Nat) (a b c d : Int32) : Nat → Nat → Int32 := u2 (u2 (u2 (u2 (u2 A 29 (4 * kk) a) 29 (4 * kk + 1) b) 29 (4 * kk + 2) c) 29 (4 * kk + 3) d) 27 6 0
def mlin (A : Nat → Nat → Int32) (kk : Nat) (a b c d e : Int32) : Nat → Nat → Int32 := mset (u2 A 28 kk (if e = 0 then 1 else 2)) kk a b c d
def mfac (A : Nat → Nat → Int32) (kk : Nat) (i j : Int32) : Nat → Nat → Int32 := mset (u2 A 28 kk 3) kk i j 0 0
def Lit (A : Nat → Nat → Int32) (x : Int32) : Prop := ∃ m, m < 10 ∧ x = nI m ∧ ¬ A 28 (m / 2) = 0
theorem Lit_nI {A : Nat → Nat → Int32} {m : Nat} (hm : m < 10) : Lit A (nI m) ↔ ¬ A 28 (m / 2) = 0 := by
  constructor
  · rintro ⟨m2, h2, e, h3⟩
    rw [nI_inj (by omega) (by omega) e]
    exact h3
  · exact fun h => ⟨m, hm, rfl, h⟩
theorem Lit_no {A : Nat → Nat → Int32} {x : Int32} (h : x < 0 ∨ (10 : Int32) ≤ x) : ¬ Lit A x := by
  rintro ⟨m, hm, rfl, -⟩
  rcases h with h | h
  · exact nI_pos (by omega) h
  · exact nI_ge hm (by decide) h
theorem div2 : ∀ m, m < 10 → nI m / 2 = nI (m / 2) := by decide +kernel
def ClOkM (A : Nat → Nat → Int32) (p q r : Int32) : Prop := Lit A p ∧ (q = -1 ∨ Lit A q) ∧ (r = -1 ∨ (¬ q = -1 ∧ Lit A r))
def okf (A : Nat → Nat → Int32) (w : Int32) : Nat → Int32
  | 0 => 0
  | k + 1 => if A 28 k = w then okf A w k ||| (1 <<< (nI k &&& 31)) else okf A w k
def Lin (A : Nat → Nat → Int32) (k : Nat) : Prop := A 28 k = 1 ∨ A 28 k = 2
set_option maxRecDepth 100000 in
set_option maxHeartbeats 4000000 in
theorem s_X6_within (l : Launch) (A : Nat → Nat → Int32) (G : Nat → Nat → Int64) (x a b : Int32) : Sem l mX6_within [.int x, .int a, .int b] 39 (A, G, PF) 39 (pv (bi (a ≤ x ∧ x ≤ b)) (A, G, PF)) := by
  refine sem_of_go (by decide) rfl (by decide) (by decide) rfl (Nat.le_of_ble_eq_true rfl) ?_
  show Go l ro0 mX6_within 39 (A, G, PF) 0 [.int x, .int a, .int b] [] 39 (pv (bi (a ≤ x ∧ x ≤ b)) (A, G, PF))
  refine go_blk (pc2 := 2) (L2 := [.int x, .int a, .int b]) (st2 := [.int a, .int x]) (M2 := (A, G, PF)) (hs2 := []) (C := True) [(.iload_n 0, 0, 0), (.iload_n 1, 0, 0)] [] (by decide +kernel) rfl trivial ?_
  refine go_cmp (cnd := .lt) (off := 12) 14 (by decide +kernel) (by decide) (fun (c1 : x < a) => ?_) (fun (c1 : ¬ x < a) => ?_)
  · skip
    refine go_blk (pc2 := 15) (L2 := [.int x, .int a, .int b]) (st2 := [.int 0]) (M2 := (A, G, PF)) (hs2 := []) (C := True) [(.iconst 0, 0, 0)] [] (by decide +kernel) rfl trivial ?_
    exact go_retz (by decide +kernel) rfl (Or.inl rfl) (pv0 (by grind))
  · skip
    refine go_blk (pc2 := 7) (L2 := [.int x, .int a, .int b]) (st2 := [.int b, .int x]) (M2 := (A, G, PF)) (hs2 := []) (C := True) [(.iload_n 0, 0, 0), (.iload_n 2, 0, 0)] [] (by decide +kernel) rfl trivial ?_
    refine go_cmp (cnd := .gt) (off := 7) 14 (by decide +kernel) (by decide) (fun (c2 : b < x) => ?_) (fun (c2 : ¬ b < x) => ?_)
    · skip
      refine go_blk (pc2 := 15) (L2 := [.int x, .int a, .int b]) (st2 := [.int 0]) (M2 := (A, G, PF)) (hs2 := []) (C := True) [(.iconst 0, 0, 0)] [] (by decide +kernel) rfl trivial ?_
      exact go_retz (by decide +kernel) rfl (Or.inl rfl) (pv0 (by grind))
    · skip
      refine go_blk (pc2 := 11) (L2 := [.int x, .int a, .int b]) (st2 := [.int 1]) (M2 := (A, G, PF)) (hs2 := []) (C := True) [(.iconst 1, 0, 0)] [] (by decide +kernel) rfl trivial ?_
      refine go_goto (off := 4) 15 (by decide +kernel) (by decide) ?_
      exact go_retz (by decide +kernel) rfl (Or.inr rfl) (pv1 (by grind))
set_option maxRecDepth 100000 in
set_option maxHeartbeats 4000000 in
theorem s_X6_isForm (l : Launch) (A : Nat → Nat → Int32) (G : Nat → Nat → Int64) (a b c : Int32) : Sem l mX6_isForm [.int a, .int b, .int c] 39 (A, G, PF) 39 (pv (bi (f9 a ∧ f9 b ∧ f9 c)) (A, G, PF)) := by
  refine sem_of_go (by decide) rfl (by decide) (by decide) rfl (Nat.le_of_ble_eq_true rfl) ?_
  show Go l ro0 mX6_isForm 39 (A, G, PF) 0 [.int a, .int b, .int c] [] 39 (pv (bi (f9 a ∧ f9 b ∧ f9 c)) (A, G, PF))
  refine go_blk (pc2 := 5) (L2 := [.int a, .int b, .int c]) (st2 := [.int 9, .int (-9), .int a]) (M2 := (A, G, PF)) (hs2 := []) (C := True) [(.iload_n 0, 0, 0), (.bipush (-9), 0, 0), (.bipush 9, 0, 0)] [] (by decide +kernel) rfl trivial ?_
  refine go_call (Y2 := mX6_within) (n2 := 39) (st := []) [] [.int a, .int (-9), .int 9] ck_6_44 cwX6_within rfl (by decide +kernel) rfl (fun _ => rfl) (fun h => absurd rfl h) (Nat.le_of_ble_eq_true rfl) (Or.inl rfl) (fun _ _ _ h => h) (s_X6_within l A G a (-9) 9) (fun v M2 hp1 => ?_)
  obtain ⟨rfl, rfl⟩ := hp1
  rcases Classical.em ((-9) ≤ a ∧ a ≤ 9) with hb2 | hb2
  · rw [bi_t hb2]
    show Go l ro0 mX6_isForm 39 (A, G, PF) 8 [.int a, .int b, .int c] [.int 1] 39 _
    refine go_ifz (cnd := .eq) (off := 29) 37 (by decide +kernel) (by decide) (fun (h : (1 : Int32) = 0) => absurd h (by decide)) (fun _ => ?_)
    refine go_blk (pc2 := 16) (L2 := [.int a, .int b, .int c]) (st2 := [.int 9, .int (-9), .int b]) (M2 := (A, G, PF)) (hs2 := []) (C := True) [(.iload_n 1, 0, 0), (.bipush (-9), 0, 0), (.bipush 9, 0, 0)] [] (by decide +kernel) rfl trivial ?_
    refine go_call (Y2 := mX6_within) (n2 := 39) (st := []) [] [.int b, .int (-9), .int 9] ck_6_44 cwX6_within rfl (by decide +kernel) rfl (fun _ => rfl) (fun h => absurd rfl h) (Nat.le_of_ble_eq_true rfl) (Or.inl rfl) (fun _ _ _ h => h) (s_X6_within l A G b (-9) 9) (fun v M2 hp3 => ?_)
    obtain ⟨rfl, rfl⟩ := hp3
    rcases Classical.em ((-9) ≤ b ∧ b ≤ 9) with hb4 | hb4
    · rw [bi_t hb4]
      show Go l ro0 mX6_isForm 39 (A, G, PF) 19 [.int a, .int b, .int c] [.int 1] 39 _
      refine go_ifz (cnd := .eq) (off := 18) 37 (by decide +kernel) (by decide) (fun (h : (1 : Int32) = 0) => absurd h (by decide)) (fun _ => ?_)
      refine go_blk (pc2 := 27) (L2 := [.int a, .int b, .int c]) (st2 := [.int 9, .int (-9), .int c]) (M2 := (A, G, PF)) (hs2 := []) (C := True) [(.iload_n 2, 0, 0), (.bipush (-9), 0, 0), (.bipush 9, 0, 0)] [] (by decide +kernel) rfl trivial ?_
      refine go_call (Y2 := mX6_within) (n2 := 39) (st := []) [] [.int c, .int (-9), .int 9] ck_6_44 cwX6_within rfl (by decide +kernel) rfl (fun _ => rfl) (fun h => absurd rfl h) (Nat.le_of_ble_eq_true rfl) (Or.inl rfl) (fun _ _ _ h => h) (s_X6_within l A G c (-9) 9) (fun v M2 hp5 => ?_)
      obtain ⟨rfl, rfl⟩ := hp5
      rcases Classical.em ((-9) ≤ c ∧ c ≤ 9) with hb6 | hb6
      · rw [bi_t hb6]
        show Go l ro0 mX6_isForm 39 (A, G, PF) 30 [.int a, .int b, .int c] [.int 1] 39 _
        refine go_ifz (cnd := .eq) (off := 7) 37 (by decide +kernel) (by decide) (fun (h : (1 : Int32) = 0) => absurd h (by decide)) (fun _ => ?_)
        refine go_blk (pc2 := 34) (L2 := [.int a, .int b, .int c]) (st2 := [.int 1]) (M2 := (A, G, PF)) (hs2 := []) (C := True) [(.iconst 1, 0, 0)] [] (by decide +kernel) rfl trivial ?_
        refine go_goto (off := 4) 38 (by decide +kernel) (by decide) ?_
        exact go_retz (by decide +kernel) rfl (Or.inr rfl) (pv1 (by simp only [f9] at *; grind))
      · rw [bi_f hb6]
        show Go l ro0 mX6_isForm 39 (A, G, PF) 30 [.int a, .int b, .int c] [.int 0] 39 _
        refine go_ifz (cnd := .eq) (off := 7) 37 (by decide +kernel) (by decide) (fun _ => ?_) (fun (h : ¬ (0 : Int32) = 0) => absurd h (by decide))
        refine go_blk (pc2 := 38) (L2 := [.int a, .int b, .int c]) (st2 := [.int 0]) (M2 := (A, G, PF)) (hs2 := []) (C := True) [(.iconst 0, 0, 0)] [] (by decide +kernel) rfl trivial ?_
        exact go_retz (by decide +kernel) rfl (Or.inl rfl) (pv0 (by simp only [f9] at *; grind))
    · rw [bi_f hb4]
      show Go l ro0 mX6_isForm 39 (A, G, PF) 19 [.int a, .int b, .int c] [.int 0] 39 _
      refine go_ifz (cnd := .eq) (off := 18) 37 (by decide +kernel) (by decide) (fun _ => ?_) (fun (h : ¬ (0 : Int32) = 0) => absurd h (by decide))
      refine go_blk (pc2 := 38) (L2 := [.int a, .int b, .int c]) (st2 := [.int 0]) (M2 := (A, G, PF)) (hs2 := []) (C := True) [(.iconst 0, 0, 0)] [] (by decide +kernel) rfl trivial ?_
      exact go_retz (by decide +kernel) rfl (Or.inl rfl) (pv0 (by simp only [f9] at *; grind))
  · rw [bi_f hb2]
    show Go l ro0 mX6_isForm 39 (A, G, PF) 8 [.int a, .int b, .int c] [.int 0] 39 _
    refine go_ifz (cnd := .eq) (off := 29) 37 (by decide +kernel) (by decide) (fun _ => ?_) (fun (h : ¬ (0 : Int32) = 0) => absurd h (by decide))
    refine go_blk (pc2 := 38) (L2 := [.int a, .int b, .int c]) (st2 := [.int 0]) (M2 := (A, G, PF)) (hs2 := []) (C := True) [(.iconst 0, 0, 0)] [] (by decide +kernel) rfl trivial ?_
    exact go_retz (by decide +kernel) rfl (Or.inl rfl) (pv0 (by simp only [f9] at *; grind))
set_option maxRecDepth 100000 in
set_option maxHeartbeats 4000000 in
theorem s_X6_set (l : Launch) (A : Nat → Nat → Int32) (G : Nat → Nat → Int64) (kk : Nat) (hk : kk < 5) (k a b c d : Int32) (hkk : k = nI kk) : Sem l mX6_set [.ref 27, .int k, .int a, .int b, .int c, .int d] 39 (A, G, PF) 39 (pm (mset A kk a b c d, G, PF)) := by
  refine sem_of_go (by decide) rfl (by decide) (by decide) rfl (Nat.le_of_ble_eq_true rfl) ?_
  show Go l ro0 mX6_set 39 (A, G, PF) 0 [.ref 27, .int k, .int a, .int b, .int c, .int d] [] 39 (pm (mset A kk a b c d, G, PF))
  refine go_blk (pc2 := 49) (L2 := [.ref 27, .int k, .int a, .int b, .int c, .int d]) (st2 := []) (M2 := ((u2 (u2 (u2 (u2 (u2 A 29 (4 * kk) a) 29 ((4 * kk) + 1) b) 29 ((4 * kk) + 2) c) 29 ((4 * kk) + 3) d) 27 6 0), G, PF)) (hs2 := []) (C := ((4 * k) = nI (4 * kk) ∧ (4 * kk) < 20) ∧ (((4 * k) + 1) = nI ((4 * kk) + 1) ∧ ((4 * kk) + 1) < 20) ∧ (((4 * k) + 2) = nI ((4 * kk) + 2) ∧ ((4 * kk) + 2) < 20) ∧ (((4 * k) + 3) = nI ((4 * kk) + 3) ∧ ((4 * kk) + 3) < 20) ∧ (0 = 0 ∨ 0 = 1) ∧ True) [(.aload_n 0, 0, 0), (.getfield 13, 6, 1), (.iconst 4, 0, 0), (.iload_n 1, 0, 0), (.imul, 0, 0), (.iload_n 2, 0, 0), (.iastore, 0, 0), (.aload_n 0, 0, 0), (.getfield 13, 6, 1), (.iconst 4, 0, 0), (.iload_n 1, 0, 0), (.imul, 0, 0), (.iconst 1, 0, 0), (.iadd, 0, 0), (.iload_n 3, 0, 0), (.iastore, 0, 0), (.aload_n 0, 0, 0), (.getfield 13, 6, 1), (.iconst 4, 0, 0), (.iload_n 1, 0, 0), (.imul, 0, 0), (.iconst 2, 0, 0), (.iadd, 0, 0), (.iload 4, 0, 0), (.iastore, 0, 0), (.aload_n 0, 0, 0), (.getfield 13, 6, 1), (.iconst 4, 0, 0), (.iload_n 1, 0, 0), (.imul, 0, 0), (.iconst 3, 0, 0), (.iadd, 0, 0), (.iload 5, 0, 0), (.iastore, 0, 0), (.aload_n 0, 0, 0), (.iconst 0, 0, 0), (.putfield 55, 6, 6)] [(4 * kk), ((4 * kk) + 1), ((4 * kk) + 2), ((4 * kk) + 3)] (by decide +kernel) rfl ⟨⟨(by first | rfl | (simp only [hkk, nI, Int32.ofNat_add, Int32.ofNat_mul]; done) | (simp only [hkk, nI, Int32.ofNat_add, Int32.ofNat_mul]; rfl)), by omega⟩, ⟨(by first | rfl | (simp only [hkk, nI, Int32.ofNat_add, Int32.ofNat_mul]; done) | (simp only [hkk, nI, Int32.ofNat_add, Int32.ofNat_mul]; rfl)), by omega⟩, ⟨(by first | rfl | (simp only [hkk, nI, Int32.ofNat_add, Int32.ofNat_mul]; done) | (simp only [hkk, nI, Int32.ofNat_add, Int32.ofNat_mul]; rfl)), by omega⟩, ⟨(by first | rfl | (simp only [hkk, nI, Int32.ofNat_add, Int32.ofNat_mul]; done) | (simp only [hkk, nI, Int32.ofNat_add, Int32.ofNat_mul]; rfl)), by omega⟩, Or.inl rfl, trivial⟩ ?_
  exact go_retv (by decide +kernel) rfl (⟨rfl, rfl⟩)
set_option maxRecDepth 100000 in
set_option maxHeartbeats 4000000 in
theorem s_X6_linear (l : Launch) (A : Nat → Nat → Int32) (G : Nat → Nat → Int64) (k a b c d e : Int32) : Sem l mX6_linear [.ref 27, .int k, .int a, .int b, .int c, .int d, .int e] 39 (A, G, PF) 39 (fun r M2 => (LinOk k a b c d ∧ ∃ kk, kk < 5 ∧ k = nI kk ∧ r = some (.int 1) ∧ M2 = (mlin A kk a b c d e, G, PF)) ∨ (¬ LinOk k a b c d ∧ r = some (.int 0) ∧ M2 = (A, G, PF))) := by
  refine sem_of_go (by decide) rfl (by decide) (by decide) rfl (Nat.le_of_ble_eq_true rfl) ?_
  show Go l ro0 mX6_linear 39 (A, G, PF) 0 [.ref 27, .int k, .int a, .int b, .int c, .int d, .int e] [] 39 (fun r M2 => (LinOk k a b c d ∧ ∃ kk, kk < 5 ∧ k = nI kk ∧ r = some (.int 1) ∧ M2 = (mlin A kk a b c d e, G, PF)) ∨ (¬ LinOk k a b c d ∧ r = some (.int 0) ∧ M2 = (A, G, PF)))
  refine go_blk (pc2 := 3) (L2 := [.ref 27, .int k, .int a, .int b, .int c, .int d, .int e]) (st2 := [.int 4, .int 0, .int k]) (M2 := (A, G, PF)) (hs2 := []) (C := True) [(.iload_n 1, 0, 0), (.iconst 0, 0, 0), (.iconst 4, 0, 0)] [] (by decide +kernel) rfl trivial ?_
  refine go_call (Y2 := mX6_within) (n2 := 39) (st := []) [] [.int k, .int 0, .int 4] ck_6_44 cwX6_within rfl (by decide +kernel) rfl (fun _ => rfl) (fun h => absurd rfl h) (Nat.le_of_ble_eq_true rfl) (Or.inl rfl) (fun _ _ _ h => h) (s_X6_within l A G k 0 4) (fun v M2 hp1 => ?_)
  obtain ⟨rfl, rfl⟩ := hp1
  rcases Classical.em (0 ≤ k ∧ k ≤ 4) with hb2 | hb2
  · rw [bi_t hb2]
    show Go l ro0 mX6_linear 39 (A, G, PF) 6 [.ref 27, .int k, .int a, .int b, .int c, .int d, .int e] [.int 1] 39 _
    obtain ⟨kk, hkk5, hkk⟩ := ix5 (x := k) (by grind)
    refine go_ifz (cnd := .eq) (off := 25) 31 (by decide +kernel) (by decide) (fun (h : (1 : Int32) = 0) => absurd h (by decide)) (fun _ => ?_)
    refine go_blk (pc2 := 13) (L2 := [.ref 27, .int k, .int a, .int b, .int c, .int d, .int e]) (st2 := [.int c, .int b, .int a]) (M2 := (A, G, PF)) (hs2 := []) (C := True) [(.iload_n 2, 0, 0), (.iload_n 3, 0, 0), (.iload 4, 0, 0)] [] (by decide +kernel) rfl trivial ?_
    refine go_call (Y2 := mX6_isForm) (n2 := 39) (st := []) [] [.int a, .int b, .int c] ck_6_48 cwX6_isForm rfl (by decide +kernel) rfl (fun _ => rfl) (fun h => absurd rfl h) (Nat.le_of_ble_eq_true rfl) (Or.inl rfl) (fun _ _ _ h => h) (s_X6_isForm l A G a b c) (fun v M2 hp3 => ?_)
    obtain ⟨rfl, rfl⟩ := hp3
    rcases Classical.em (f9 a ∧ f9 b ∧ f9 c) with hb4 | hb4
    · rw [bi_t hb4]
      show Go l ro0 mX6_linear 39 (A, G, PF) 16 [.ref 27, .int k, .int a, .int b, .int c, .int d, .int e] [.int 1] 39 _
      refine go_ifz (cnd := .eq) (off := 15) 31 (by decide +kernel) (by decide) (fun (h : (1 : Int32) = 0) => absurd h (by decide)) (fun _ => ?_)
      refine go_blk (pc2 := 25) (L2 := [.ref 27, .int k, .int a, .int b, .int c, .int d, .int e]) (st2 := [.int 99, .int (-99), .int d]) (M2 := (A, G, PF)) (hs2 := []) (C := True) [(.iload 5, 0, 0), (.bipush (-99), 0, 0), (.bipush 99, 0, 0)] [] (by decide +kernel) rfl trivial ?_
      refine go_call (Y2 := mX6_within) (n2 := 39) (st := []) [] [.int d, .int (-99), .int 99] ck_6_44 cwX6_within rfl (by decide +kernel) rfl (fun _ => rfl) (fun h => absurd rfl h) (Nat.le_of_ble_eq_true rfl) (Or.inl rfl) (fun _ _ _ h => h) (s_X6_within l A G d (-99) 99) (fun v M2 hp5 => ?_)
      obtain ⟨rfl, rfl⟩ := hp5
      rcases Classical.em ((-99) ≤ d ∧ d ≤ 99) with hb6 | hb6
      · rw [bi_t hb6]
        show Go l ro0 mX6_linear 39 (A, G, PF) 28 [.ref 27, .int k, .int a, .int b, .int c, .int d, .int e] [.int 1] 39 _
        refine go_ifz (cnd := .ne) (off := 5) 33 (by decide +kernel) (by decide) (fun _ => ?_) (fun (h : (1 : Int32) = 0) => absurd h (by decide))
        refine go_blk (pc2 := 40) (L2 := [.ref 27, .int k, .int a, .int b, .int c, .int d, .int e]) (st2 := [.int e, .int k, .ref 28]) (M2 := (A, G, PF)) (hs2 := []) (C := True) [(.aload_n 0, 0, 0), (.getfield 7, 6, 0), (.iload_n 1, 0, 0), (.iload 6, 0, 0)] [] (by decide +kernel) rfl trivial ?_
        refine go_ifz (cnd := .eq) (off := 7) 47 (by decide +kernel) (by decide) (fun (c7 : e = 0) => ?_) (fun (c7 : ¬ e = 0) => ?_)
        · skip
          refine go_blk (pc2 := 57) (L2 := [.ref 27, .int k, .int a, .int b, .int c, .int d, .int e]) (st2 := [.int d, .int c, .int b, .int a, .int k, .ref 27]) (M2 := ((u2 A 28 kk 1), G, PF)) (hs2 := []) (C := (k = nI kk ∧ kk < 5) ∧ True) [(.iconst 1, 0, 0), (.iastore, 0, 0), (.aload_n 0, 0, 0), (.iload_n 1, 0, 0), (.iload_n 2, 0, 0), (.iload_n 3, 0, 0), (.iload 4, 0, 0), (.iload 5, 0, 0)] [kk] (by decide +kernel) rfl ⟨⟨hkk, by omega⟩, trivial⟩ ?_
          refine go_call (Y2 := mX6_set) (n2 := 39) (st := []) [.ref 27] [.int k, .int a, .int b, .int c, .int d] ck_6_51 cwX6_set rfl (by decide +kernel) rfl (fun h => absurd h (by decide)) (fun _ => ⟨27, rfl, by decide, rfl⟩) (Nat.le_of_ble_eq_true rfl) (Or.inl rfl) (fun _ _ _ h => h) (s_X6_set l (u2 A 28 kk 1) G kk hkk5 k a b c d hkk) (fun v M2 hp8 => ?_)
          obtain ⟨rfl, rfl⟩ := hp8
          show Go l ro0 mX6_linear 39 ((mset (u2 A 28 kk 1) kk a b c d), G, PF) 60 [.ref 27, .int k, .int a, .int b, .int c, .int d, .int e] [] 39 _
          refine go_blk (pc2 := 61) (L2 := [.ref 27, .int k, .int a, .int b, .int c, .int d, .int e]) (st2 := [.int 1]) (M2 := ((mset (u2 A 28 kk 1) kk a b c d), G, PF)) (hs2 := []) (C := True) [(.iconst 1, 0, 0)] [] (by decide +kernel) rfl trivial ?_
          exact go_retz (by decide +kernel) rfl (Or.inr rfl) (Or.inl ⟨⟨by grind, by assumption, by simp only [f99]; grind⟩, kk, hkk5, hkk, rfl, by unfold mlin; simp [*]⟩)
        · skip
          refine go_blk (pc2 := 44) (L2 := [.ref 27, .int k, .int a, .int b, .int c, .int d, .int e]) (st2 := [.int 2, .int k, .ref 28]) (M2 := (A, G, PF)) (hs2 := []) (C := True) [(.iconst 2, 0, 0)] [] (by decide +kernel) rfl trivial ?_
          refine go_goto (off := 4) 48 (by decide +kernel) (by decide) ?_
          refine go_blk (pc2 := 57) (L2 := [.ref 27, .int k, .int a, .int b, .int c, .int d, .int e]) (st2 := [.int d, .int c, .int b, .int a, .int k, .ref 27]) (M2 := ((u2 A 28 kk 2), G, PF)) (hs2 := []) (C := (k = nI kk ∧ kk < 5) ∧ True) [(.iastore, 0, 0), (.aload_n 0, 0, 0), (.iload_n 1, 0, 0), (.iload_n 2, 0, 0), (.iload_n 3, 0, 0), (.iload 4, 0, 0), (.iload 5, 0, 0)] [kk] (by decide +kernel) rfl ⟨⟨hkk, by omega⟩, trivial⟩ ?_
          refine go_call (Y2 := mX6_set) (n2 := 39) (st := []) [.ref 27] [.int k, .int a, .int b, .int c, .int d] ck_6_51 cwX6_set rfl (by decide +kernel) rfl (fun h => absurd h (by decide)) (fun _ => ⟨27, rfl, by decide, rfl⟩) (Nat.le_of_ble_eq_true rfl) (Or.inl rfl) (fun _ _ _ h => h) (s_X6_set l (u2 A 28 kk 2) G kk hkk5 k a b c d hkk) (fun v M2 hp9 => ?_)
          obtain ⟨rfl, rfl⟩ := hp9
          show Go l ro0 mX6_linear 39 ((mset (u2 A 28 kk 2) kk a b c d), G, PF) 60 [.ref 27, .int k, .int a, .int b, .int c, .int d, .int e] [] 39 _
          refine go_blk (pc2 := 61) (L2 := [.ref 27, .int k, .int a, .int b, .int c, .int d, .int e]) (st2 := [.int 1]) (M2 := ((mset (u2 A 28 kk 2) kk a b c d), G, PF)) (hs2 := []) (C := True) [(.iconst 1, 0, 0)] [] (by decide +kernel) rfl trivial ?_
          exact go_retz (by decide +kernel) rfl (Or.inr rfl) (Or.inl ⟨⟨by grind, by assumption, by simp only [f99]; grind⟩, kk, hkk5, hkk, rfl, by unfold mlin; simp [*]⟩)
      · rw [bi_f hb6]
        show Go l ro0 mX6_linear 39 (A, G, PF) 28 [.ref 27, .int k, .int a, .int b, .int c, .int d, .int e] [.int 0] 39 _
        refine go_ifz (cnd := .ne) (off := 5) 33 (by decide +kernel) (by decide) (fun (h : ¬ (0 : Int32) = 0) => absurd h (by decide)) (fun _ => ?_)
        refine go_blk (pc2 := 32) (L2 := [.ref 27, .int k, .int a, .int b, .int c, .int d, .int e]) (st2 := [.int 0]) (M2 := (A, G, PF)) (hs2 := []) (C := True) [(.iconst 0, 0, 0)] [] (by decide +kernel) rfl trivial ?_
        exact go_retz (by decide +kernel) rfl (Or.inl rfl) (Or.inr ⟨by rintro ⟨z1, z2, z3⟩; simp only [f99] at z3; first | contradiction | grind, rfl, rfl⟩)
    · rw [bi_f hb4]
      show Go l ro0 mX6_linear 39 (A, G, PF) 16 [.ref 27, .int k, .int a, .int b, .int c, .int d, .int e] [.int 0] 39 _
      refine go_ifz (cnd := .eq) (off := 15) 31 (by decide +kernel) (by decide) (fun _ => ?_) (fun (h : ¬ (0 : Int32) = 0) => absurd h (by decide))
      refine go_blk (pc2 := 32) (L2 := [.ref 27, .int k, .int a, .int b, .int c, .int d, .int e]) (st2 := [.int 0]) (M2 := (A, G, PF)) (hs2 := []) (C := True) [(.iconst 0, 0, 0)] [] (by decide +kernel) rfl trivial ?_
      exact go_retz (by decide +kernel) rfl (Or.inl rfl) (Or.inr ⟨by rintro ⟨z1, z2, z3⟩; simp only [f99] at z3; first | contradiction | grind, rfl, rfl⟩)
  · rw [bi_f hb2]
    show Go l ro0 mX6_linear 39 (A, G, PF) 6 [.ref 27, .int k, .int a, .int b, .int c, .int d, .int e] [.int 0] 39 _
    refine go_ifz (cnd := .eq) (off := 25) 31 (by decide +kernel) (by decide) (fun _ => ?_) (fun (h : ¬ (0 : Int32) = 0) => absurd h (by decide))
    refine go_blk (pc2 := 32) (L2 := [.ref 27, .int k, .int a, .int b, .int c, .int d, .int e]) (st2 := [.int 0]) (M2 := (A, G, PF)) (hs2 := []) (C := True) [(.iconst 0, 0, 0)] [] (by decide +kernel) rfl trivial ?_
    exact go_retz (by decide +kernel) rfl (Or.inl rfl) (Or.inr ⟨by rintro ⟨z1, z2, z3⟩; simp only [f99] at z3; first | contradiction | grind, rfl, rfl⟩)
set_option maxRecDepth 100000 in
set_option maxHeartbeats 4000000 in
theorem s_X6_fact (l : Launch) (A : Nat → Nat → Int32) (G : Nat → Nat → Int64) (k i j : Int32) : Sem l mX6_fact [.ref 27, .int k, .int i, .int j] 39 (A, G, PF) 39 (fun r M2 => (FacOk k i j ∧ ∃ kk, kk < 5 ∧ k = nI kk ∧ r = some (.int 1) ∧ M2 = (mfac A kk i j, G, PF)) ∨ (¬ FacOk k i j ∧ r = some (.int 0) ∧ M2 = (A, G, PF))) := by
  refine sem_of_go (by decide) rfl (by decide) (by decide) rfl (Nat.le_of_ble_eq_true rfl) ?_
  show Go l ro0 mX6_fact 39 (A, G, PF) 0 [.ref 27, .int k, .int i, .int j] [] 39 (fun r M2 => (FacOk k i j ∧ ∃ kk, kk < 5 ∧ k = nI kk ∧ r = some (.int 1) ∧ M2 = (mfac A kk i j, G, PF)) ∨ (¬ FacOk k i j ∧ r = some (.int 0) ∧ M2 = (A, G, PF)))
  refine go_blk (pc2 := 3) (L2 := [.ref 27, .int k, .int i, .int j]) (st2 := [.int 4, .int 0, .int k]) (M2 := (A, G, PF)) (hs2 := []) (C := True) [(.iload_n 1, 0, 0), (.iconst 0, 0, 0), (.iconst 4, 0, 0)] [] (by decide +kernel) rfl trivial ?_
  refine go_call (Y2 := mX6_within) (n2 := 39) (st := []) [] [.int k, .int 0, .int 4] ck_6_44 cwX6_within rfl (by decide +kernel) rfl (fun _ => rfl) (fun h => absurd rfl h) (Nat.le_of_ble_eq_true rfl) (Or.inl rfl) (fun _ _ _ h => h) (s_X6_within l A G k 0 4) (fun v M2 hp1 => ?_)
  obtain ⟨rfl, rfl⟩ := hp1
  rcases Classical.em (0 ≤ k ∧ k ≤ 4) with hb2 | hb2
  · rw [bi_t hb2]
    show Go l ro0 mX6_fact 39 (A, G, PF) 6 [.ref 27, .int k, .int i, .int j] [.int 1] 39 _
    obtain ⟨kk, hkk5, hkk⟩ := ix5 (x := k) (by grind)
    refine go_ifz (cnd := .eq) (off := 21) 27 (by decide +kernel) (by decide) (fun (h : (1 : Int32) = 0) => absurd h (by decide)) (fun _ => ?_)
    refine go_blk (pc2 := 12) (L2 := [.ref 27, .int k, .int i, .int j]) (st2 := [.int 2, .int 0, .int i]) (M2 := (A, G, PF)) (hs2 := []) (C := True) [(.iload_n 2, 0, 0), (.iconst 0, 0, 0), (.iconst 2, 0, 0)] [] (by decide +kernel) rfl trivial ?_
    refine go_call (Y2 := mX6_within) (n2 := 39) (st := []) [] [.int i, .int 0, .int 2] ck_6_44 cwX6_within rfl (by decide +kernel) rfl (fun _ => rfl) (fun h => absurd rfl h) (Nat.le_of_ble_eq_true rfl) (Or.inl rfl) (fun _ _ _ h => h) (s_X6_within l A G i 0 2) (fun v M2 hp3 => ?_)
    obtain ⟨rfl, rfl⟩ := hp3
    rcases Classical.em (0 ≤ i ∧ i ≤ 2) with hb4 | hb4
    · rw [bi_t hb4]
      show Go l ro0 mX6_fact 39 (A, G, PF) 15 [.ref 27, .int k, .int i, .int j] [.int 1] 39 _
      refine go_ifz (cnd := .eq) (off := 12) 27 (by decide +kernel) (by decide) (fun (h : (1 : Int32) = 0) => absurd h (by decide)) (fun _ => ?_)
      refine go_blk (pc2 := 21) (L2 := [.ref 27, .int k, .int i, .int j]) (st2 := [.int 2, .int 0, .int j]) (M2 := (A, G, PF)) (hs2 := []) (C := True) [(.iload_n 3, 0, 0), (.iconst 0, 0, 0), (.iconst 2, 0, 0)] [] (by decide +kernel) rfl trivial ?_
      refine go_call (Y2 := mX6_within) (n2 := 39) (st := []) [] [.int j, .int 0, .int 2] ck_6_44 cwX6_within rfl (by decide +kernel) rfl (fun _ => rfl) (fun h => absurd rfl h) (Nat.le_of_ble_eq_true rfl) (Or.inl rfl) (fun _ _ _ h => h) (s_X6_within l A G j 0 2) (fun v M2 hp5 => ?_)
      obtain ⟨rfl, rfl⟩ := hp5
      rcases Classical.em (0 ≤ j ∧ j ≤ 2) with hb6 | hb6
      · rw [bi_t hb6]
        show Go l ro0 mX6_fact 39 (A, G, PF) 24 [.ref 27, .int k, .int i, .int j] [.int 1] 39 _
        refine go_ifz (cnd := .ne) (off := 5) 29 (by decide +kernel) (by decide) (fun _ => ?_) (fun (h : (1 : Int32) = 0) => absurd h (by decide))
        refine go_blk (pc2 := 42) (L2 := [.ref 27, .int k, .int i, .int j]) (st2 := [.int 0, .int 0, .int j, .int i, .int k, .ref 27]) (M2 := ((u2 A 28 kk 3), G, PF)) (hs2 := []) (C := (k = nI kk ∧ kk < 5) ∧ True) [(.aload_n 0, 0, 0), (.getfield 7, 6, 0), (.iload_n 1, 0, 0), (.iconst 3, 0, 0), (.iastore, 0, 0), (.aload_n 0, 0, 0), (.iload_n 1, 0, 0), (.iload_n 2, 0, 0), (.iload_n 3, 0, 0), (.iconst 0, 0, 0), (.iconst 0, 0, 0)] [kk] (by decide +kernel) rfl ⟨⟨hkk, by omega⟩, trivial⟩ ?_
        refine go_call (Y2 := mX6_set) (n2 := 39) (st := []) [.ref 27] [.int k, .int i, .int j, .int 0, .int 0] ck_6_51 cwX6_set rfl (by decide +kernel) rfl (fun h => absurd h (by decide)) (fun _ => ⟨27, rfl, by decide, rfl⟩) (Nat.le_of_ble_eq_true rfl) (Or.inl rfl) (fun _ _ _ h => h) (s_X6_set l (u2 A 28 kk 3) G kk hkk5 k i j 0 0 hkk) (fun v M2 hp7 => ?_)
        obtain ⟨rfl, rfl⟩ := hp7
        show Go l ro0 mX6_fact 39 ((mset (u2 A 28 kk 3) kk i j 0 0), G, PF) 45 [.ref 27, .int k, .int i, .int j] [] 39 _
        refine go_blk (pc2 := 46) (L2 := [.ref 27, .int k, .int i, .int j]) (st2 := [.int 1]) (M2 := ((mset (u2 A 28 kk 3) kk i j 0 0), G, PF)) (hs2 := []) (C := True) [(.iconst 1, 0, 0)] [] (by decide +kernel) rfl trivial ?_
        exact go_retz (by decide +kernel) rfl (Or.inr rfl) (Or.inl ⟨⟨by grind, by grind, by grind⟩, kk, hkk5, hkk, rfl, rfl⟩)
      · rw [bi_f hb6]
        show Go l ro0 mX6_fact 39 (A, G, PF) 24 [.ref 27, .int k, .int i, .int j] [.int 0] 39 _
        refine go_ifz (cnd := .ne) (off := 5) 29 (by decide +kernel) (by decide) (fun (h : ¬ (0 : Int32) = 0) => absurd h (by decide)) (fun _ => ?_)
        refine go_blk (pc2 := 28) (L2 := [.ref 27, .int k, .int i, .int j]) (st2 := [.int 0]) (M2 := (A, G, PF)) (hs2 := []) (C := True) [(.iconst 0, 0, 0)] [] (by decide +kernel) rfl trivial ?_
        exact go_retz (by decide +kernel) rfl (Or.inl rfl) (Or.inr ⟨by rintro ⟨z1, z2, z3⟩; grind, rfl, rfl⟩)
    · rw [bi_f hb4]
      show Go l ro0 mX6_fact 39 (A, G, PF) 15 [.ref 27, .int k, .int i, .int j] [.int 0] 39 _
      refine go_ifz (cnd := .eq) (off := 12) 27 (by decide +kernel) (by decide) (fun _ => ?_) (fun (h : ¬ (0 : Int32) = 0) => absurd h (by decide))
      refine go_blk (pc2 := 28) (L2 := [.ref 27, .int k, .int i, .int j]) (st2 := [.int 0]) (M2 := (A, G, PF)) (hs2 := []) (C := True) [(.iconst 0, 0, 0)] [] (by decide +kernel) rfl trivial ?_
      exact go_retz (by decide +kernel) rfl (Or.inl rfl) (Or.inr ⟨by rintro ⟨z1, z2, z3⟩; grind, rfl, rfl⟩)
  · rw [bi_f hb2]
    show Go l ro0 mX6_fact 39 (A, G, PF) 6 [.ref 27, .int k, .int i, .int j] [.int 0] 39 _
    refine go_ifz (cnd := .eq) (off := 21) 27 (by decide +kernel) (by decide) (fun _ => ?_) (fun (h : ¬ (0 : Int32) = 0) => absurd h (by decide))
    refine go_blk (pc2 := 28) (L2 := [.ref 27, .int k, .int i, .int j]) (st2 := [.int 0]) (M2 := (A, G, PF)) (hs2 := []) (C := True) [(.iconst 0, 0, 0)] [] (by decide +kernel) rfl trivial ?_
    exact go_retz (by decide +kernel) rfl (Or.inl rfl) (Or.inr ⟨by rintro ⟨z1, z2, z3⟩; grind, rfl, rfl⟩)
set_option maxRecDepth 100000 in
set_option maxHeartbeats 4000000 in
theorem s_X6_isLiteral (l : Launch) (A : Nat → Nat → Int32) (G : Nat → Nat → Int64) (x : Int32) : Sem l mX6_isLiteral [.ref 27, .int x] 39 (A, G, PF) 39 (pv (bi (Lit A x)) (A, G, PF)) := by
  refine sem_of_go (by decide) rfl (by decide) (by decide) rfl (Nat.le_of_ble_eq_true rfl) ?_
  show Go l ro0 mX6_isLiteral 39 (A, G, PF) 0 [.ref 27, .int x] [] 39 (pv (bi (Lit A x)) (A, G, PF))
  refine go_blk (pc2 := 1) (L2 := [.ref 27, .int x]) (st2 := [.int x]) (M2 := (A, G, PF)) (hs2 := []) (C := True) [(.iload_n 1, 0, 0)] [] (by decide +kernel) rfl trivial ?_
  refine go_ifz (cnd := .lt) (off := 24) 25 (by decide +kernel) (by decide) (fun (c1 : x < 0) => ?_) (fun (c1 : ¬ x < 0) => ?_)
  · skip
    refine go_blk (pc2 := 26) (L2 := [.ref 27, .int x]) (st2 := [.int 0]) (M2 := (A, G, PF)) (hs2 := []) (C := True) [(.iconst 0, 0, 0)] [] (by decide +kernel) rfl trivial ?_
    exact go_retz (by decide +kernel) rfl (Or.inl rfl) (pv0 (by first | exact Lit_no (Or.inl (by assumption)) | exact Lit_no (Or.inr (by assumption)) | (rw [hxm, Lit_nI hm]; exact fun zz => zz (by assumption))))
  · skip
    refine go_blk (pc2 := 7) (L2 := [.ref 27, .int x]) (st2 := [.int 10, .int x]) (M2 := (A, G, PF)) (hs2 := []) (C := True) [(.iload_n 1, 0, 0), (.bipush 10, 0, 0)] [] (by decide +kernel) rfl trivial ?_
    refine go_cmp (cnd := .ge) (off := 18) 25 (by decide +kernel) (by decide) (fun (c2 : 10 ≤ x) => ?_) (fun (c2 : ¬ 10 ≤ x) => ?_)
    · skip
      refine go_blk (pc2 := 26) (L2 := [.ref 27, .int x]) (st2 := [.int 0]) (M2 := (A, G, PF)) (hs2 := []) (C := True) [(.iconst 0, 0, 0)] [] (by decide +kernel) rfl trivial ?_
      exact go_retz (by decide +kernel) rfl (Or.inl rfl) (pv0 (by first | exact Lit_no (Or.inl (by assumption)) | exact Lit_no (Or.inr (by assumption)) | (rw [hxm, Lit_nI hm]; exact fun zz => zz (by assumption))))
    · skip
      obtain ⟨m, hm, hxm⟩ := ix10 (by assumption) c2
      have hdv : x / 2 = nI (m / 2) := by rw [hxm]; exact div2 m hm
      refine go_blk (pc2 := 18) (L2 := [.ref 27, .int x]) (st2 := [.int (A 28 (m / 2))]) (M2 := (A, G, PF)) (hs2 := []) (C := (¬ 2 = 0) ∧ ((x / 2) = nI (m / 2) ∧ (m / 2) < 5) ∧ True) [(.aload_n 0, 0, 0), (.getfield 7, 6, 0), (.iload_n 1, 0, 0), (.iconst 2, 0, 0), (.idiv, 0, 0), (.iaload, 0, 0)] [(m / 2)] (by decide +kernel) rfl ⟨by decide, ⟨hdv, by omega⟩, trivial⟩ ?_
      refine go_ifz (cnd := .eq) (off := 7) 25 (by decide +kernel) (by decide) (fun (c3 : (A 28 (m / 2)) = 0) => ?_) (fun (c3 : ¬ (A 28 (m / 2)) = 0) => ?_)
      · skip
        refine go_blk (pc2 := 26) (L2 := [.ref 27, .int x]) (st2 := [.int 0]) (M2 := (A, G, PF)) (hs2 := []) (C := True) [(.iconst 0, 0, 0)] [] (by decide +kernel) rfl trivial ?_
        exact go_retz (by decide +kernel) rfl (Or.inl rfl) (pv0 (by first | exact Lit_no (Or.inl (by assumption)) | exact Lit_no (Or.inr (by assumption)) | (rw [hxm, Lit_nI hm]; exact fun zz => zz (by assumption))))
      · skip
        refine go_blk (pc2 := 22) (L2 := [.ref 27, .int x]) (st2 := [.int 1]) (M2 := (A, G, PF)) (hs2 := []) (C := True) [(.iconst 1, 0, 0)] [] (by decide +kernel) rfl trivial ?_
        refine go_goto (off := 4) 26 (by decide +kernel) (by decide) ?_
        exact go_retz (by decide +kernel) rfl (Or.inr rfl) (pv1 (by rw [hxm, Lit_nI hm]; assumption))
set_option maxRecDepth 100000 in
set_option maxHeartbeats 4000000 in
theorem s_X6_clause (l : Launch) (A : Nat → Nat → Int32) (G : Nat → Nat → Int64) (ncl : Nat) (hn : A 27 4 = nI ncl) (hn8 : ncl ≤ 8) (p q r1 : Int32) : Sem l mX6_clause [.ref 27, .int p, .int q, .int r1] 39 (A, G, PF) 39 (fun r M2 => (ClOkM A p q r1 ∧ ncl < 8 ∧ r = some (.int (A 27 4 + 1)) ∧ M2 = ((u2 (u2 (u2 (u2 A 30 (3 * ncl) p) 30 (3 * ncl + 1) q) 30 (3 * ncl + 2) r1) 27 4 (A 27 4 + 1)), G, PF)) ∨ (ClOkM A p q r1 ∧ ncl = 8 ∧ r = some (.int (-2)) ∧ M2 = (A, G, PF)) ∨ (¬ ClOkM A p q r1 ∧ r = some (.int (-1)) ∧ M2 = (A, G, PF))) := by
  refine sem_of_go (by decide) rfl (by decide) (by decide) rfl (Nat.le_of_ble_eq_true rfl) ?_
  show Go l ro0 mX6_clause 39 (A, G, PF) 0 [.ref 27, .int p, .int q, .int r1] [] 39 (fun r M2 => (ClOkM A p q r1 ∧ ncl < 8 ∧ r = some (.int (A 27 4 + 1)) ∧ M2 = ((u2 (u2 (u2 (u2 A 30 (3 * ncl) p) 30 (3 * ncl + 1) q) 30 (3 * ncl + 2) r1) 27 4 (A 27 4 + 1)), G, PF)) ∨ (ClOkM A p q r1 ∧ ncl = 8 ∧ r = some (.int (-2)) ∧ M2 = (A, G, PF)) ∨ (¬ ClOkM A p q r1 ∧ r = some (.int (-1)) ∧ M2 = (A, G, PF)))
  refine go_blk (pc2 := 2) (L2 := [.ref 27, .int p, .int q, .int r1]) (st2 := [.int p, .ref 27]) (M2 := (A, G, PF)) (hs2 := []) (C := True) [(.aload_n 0, 0, 0), (.iload_n 1, 0, 0)] [] (by decide +kernel) rfl trivial ?_
  refine go_call (Y2 := mX6_isLiteral) (n2 := 39) (st := []) [.ref 27] [.int p] ck_6_59 cwX6_isLiteral rfl (by decide +kernel) rfl (fun h => absurd h (by decide)) (fun _ => ⟨27, rfl, by decide, rfl⟩) (Nat.le_of_ble_eq_true rfl) (Or.inl rfl) (fun _ _ _ h => h) (s_X6_isLiteral l A G p) (fun v M2 hp1 => ?_)
  obtain ⟨rfl, rfl⟩ := hp1
  rcases Classical.em (Lit A p) with hb2 | hb2
  · rw [bi_t hb2]
    show Go l ro0 mX6_clause 39 (A, G, PF) 5 [.ref 27, .int p, .int q, .int r1] [.int 1] 39 _
    refine go_ifz (cnd := .eq) (off := 34) 39 (by decide +kernel) (by decide) (fun (h : (1 : Int32) = 0) => absurd h (by decide)) (fun _ => ?_)
    refine go_blk (pc2 := 10) (L2 := [.ref 27, .int p, .int q, .int r1]) (st2 := [.int (-1), .int q]) (M2 := (A, G, PF)) (hs2 := []) (C := True) [(.iload_n 2, 0, 0), (.iconst (-1), 0, 0)] [] (by decide +kernel) rfl trivial ?_
    refine go_cmp (cnd := .eq) (off := 11) 21 (by decide +kernel) (by decide) (fun (c3 : q = (-1)) => ?_) (fun (c3 : ¬ q = (-1)) => ?_)
    · skip
      refine go_blk (pc2 := 23) (L2 := [.ref 27, .int p, .int q, .int r1]) (st2 := [.int (-1), .int r1]) (M2 := (A, G, PF)) (hs2 := []) (C := True) [(.iload_n 3, 0, 0), (.iconst (-1), 0, 0)] [] (by decide +kernel) rfl trivial ?_
      refine go_cmp (cnd := .eq) (off := 18) 41 (by decide +kernel) (by decide) (fun (c4 : r1 = (-1)) => ?_) (fun (c4 : ¬ r1 = (-1)) => ?_)
      · skip
        refine go_blk (pc2 := 47) (L2 := [.ref 27, .int p, .int q, .int r1]) (st2 := [.int 8, .int (A 27 4)]) (M2 := (A, G, PF)) (hs2 := []) (C := True) [(.aload_n 0, 0, 0), (.getfield 63, 6, 4), (.bipush 8, 0, 0)] [] (by decide +kernel) rfl trivial ?_
        refine go_cmp (cnd := .ne) (off := 6) 53 (by decide +kernel) (by decide) (fun (c5 : ¬ (A 27 4) = 8) => ?_) (fun (c5 : (A 27 4) = 8) => ?_)
        · skip
          replace c5 : ¬ ncl = 8 := fun zz => c5 ((nx_eq (a := ncl) (b := 8) hn rfl (by omega) (by omega)).mpr zz)
          refine go_blk (pc2 := 104) (L2 := [.ref 27, .int p, .int q, .int r1]) (st2 := [.int ((A 27 4) + 1)]) (M2 := ((u2 (u2 (u2 (u2 A 30 (3 * ncl) p) 30 ((3 * ncl) + 1) q) 30 ((3 * ncl) + 2) r1) 27 4 ((A 27 4) + 1)), G, PF)) (hs2 := []) (C := ((3 * (A 27 4)) = nI (3 * ncl) ∧ (3 * ncl) < 24) ∧ (((3 * (A 27 4)) + 1) = nI ((3 * ncl) + 1) ∧ ((3 * ncl) + 1) < 24) ∧ (((3 * (A 27 4)) + 2) = nI ((3 * ncl) + 2) ∧ ((3 * ncl) + 2) < 24) ∧ True) [(.aload_n 0, 0, 0), (.getfield 16, 6, 2), (.iconst 3, 0, 0), (.aload_n 0, 0, 0), (.getfield 63, 6, 4), (.imul, 0, 0), (.iload_n 1, 0, 0), (.iastore, 0, 0), (.aload_n 0, 0, 0), (.getfield 16, 6, 2), (.iconst 3, 0, 0), (.aload_n 0, 0, 0), (.getfield 63, 6, 4), (.imul, 0, 0), (.iconst 1, 0, 0), (.iadd, 0, 0), (.iload_n 2, 0, 0), (.iastore, 0, 0), (.aload_n 0, 0, 0), (.getfield 16, 6, 2), (.iconst 3, 0, 0), (.aload_n 0, 0, 0), (.getfield 63, 6, 4), (.imul, 0, 0), (.iconst 2, 0, 0), (.iadd, 0, 0), (.iload_n 3, 0, 0), (.iastore, 0, 0), (.aload_n 0, 0, 0), (.dup, 0, 0), (.getfield 63, 6, 4), (.iconst 1, 0, 0), (.iadd, 0, 0), (.dup_x1, 0, 0), (.putfield 63, 6, 4)] [(3 * ncl), ((3 * ncl) + 1), ((3 * ncl) + 2)] (by decide +kernel) rfl ⟨⟨(by first | rfl | (simp only [hn, nI, Int32.ofNat_add, Int32.ofNat_mul]; done) | (simp only [hn, nI, Int32.ofNat_add, Int32.ofNat_mul]; rfl)), by omega⟩, ⟨(by first | rfl | (simp only [hn, nI, Int32.ofNat_add, Int32.ofNat_mul]; done) | (simp only [hn, nI, Int32.ofNat_add, Int32.ofNat_mul]; rfl)), by omega⟩, ⟨(by first | rfl | (simp only [hn, nI, Int32.ofNat_add, Int32.ofNat_mul]; done) | (simp only [hn, nI, Int32.ofNat_add, Int32.ofNat_mul]; rfl)), by omega⟩, trivial⟩ ?_
          exact go_reti (by decide +kernel) rfl (Or.inl ⟨⟨by assumption, by first | exact Or.inl (by assumption) | exact Or.inr (by assumption), by first | exact Or.inl (by assumption) | exact Or.inr ⟨by assumption, by assumption⟩⟩, by omega, rfl, rfl⟩)
        · skip
          replace c5 : ncl = 8 := (nx_eq (a := ncl) (b := 8) hn rfl (by omega) (by omega)).mp c5
          refine go_blk (pc2 := 52) (L2 := [.ref 27, .int p, .int q, .int r1]) (st2 := [.int (-2)]) (M2 := (A, G, PF)) (hs2 := []) (C := True) [(.bipush (-2), 0, 0)] [] (by decide +kernel) rfl trivial ?_
          exact go_reti (by decide +kernel) rfl (Or.inr (Or.inl ⟨⟨by assumption, by first | exact Or.inl (by assumption) | exact Or.inr (by assumption), by first | exact Or.inl (by assumption) | exact Or.inr ⟨by assumption, by assumption⟩⟩, by omega, rfl, rfl⟩))
      · skip
        refine go_blk (pc2 := 28) (L2 := [.ref 27, .int p, .int q, .int r1]) (st2 := [.int (-1), .int q]) (M2 := (A, G, PF)) (hs2 := []) (C := True) [(.iload_n 2, 0, 0), (.iconst (-1), 0, 0)] [] (by decide +kernel) rfl trivial ?_
        refine go_cmp (cnd := .eq) (off := 11) 39 (by decide +kernel) (by decide) (fun (c6 : q = (-1)) => ?_) (fun (c6 : ¬ q = (-1)) => ?_)
        · skip
          refine go_blk (pc2 := 40) (L2 := [.ref 27, .int p, .int q, .int r1]) (st2 := [.int (-1)]) (M2 := (A, G, PF)) (hs2 := []) (C := True) [(.iconst (-1), 0, 0)] [] (by decide +kernel) rfl trivial ?_
          exact go_reti (by decide +kernel) rfl (Or.inr (Or.inr ⟨by rintro ⟨z1, z2, z3⟩; simp_all, rfl, rfl⟩))
        · skip
          refine go_blk (pc2 := 33) (L2 := [.ref 27, .int p, .int q, .int r1]) (st2 := [.int r1, .ref 27]) (M2 := (A, G, PF)) (hs2 := []) (C := True) [(.aload_n 0, 0, 0), (.iload_n 3, 0, 0)] [] (by decide +kernel) rfl trivial ?_
          refine go_call (Y2 := mX6_isLiteral) (n2 := 39) (st := []) [.ref 27] [.int r1] ck_6_59 cwX6_isLiteral rfl (by decide +kernel) rfl (fun h => absurd h (by decide)) (fun _ => ⟨27, rfl, by decide, rfl⟩) (Nat.le_of_ble_eq_true rfl) (Or.inl rfl) (fun _ _ _ h => h) (s_X6_isLiteral l A G r1) (fun v M2 hp7 => ?_)
          obtain ⟨rfl, rfl⟩ := hp7
          rcases Classical.em (Lit A r1) with hb8 | hb8
          · rw [bi_t hb8]
            show Go l ro0 mX6_clause 39 (A, G, PF) 36 [.ref 27, .int p, .int q, .int r1] [.int 1] 39 _
            refine go_ifz (cnd := .ne) (off := 5) 41 (by decide +kernel) (by decide) (fun _ => ?_) (fun (h : (1 : Int32) = 0) => absurd h (by decide))
            refine go_blk (pc2 := 47) (L2 := [.ref 27, .int p, .int q, .int r1]) (st2 := [.int 8, .int (A 27 4)]) (M2 := (A, G, PF)) (hs2 := []) (C := True) [(.aload_n 0, 0, 0), (.getfield 63, 6, 4), (.bipush 8, 0, 0)] [] (by decide +kernel) rfl trivial ?_
            refine go_cmp (cnd := .ne) (off := 6) 53 (by decide +kernel) (by decide) (fun (c9 : ¬ (A 27 4) = 8) => ?_) (fun (c9 : (A 27 4) = 8) => ?_)
            · skip
              replace c9 : ¬ ncl = 8 := fun zz => c9 ((nx_eq (a := ncl) (b := 8) hn rfl (by omega) (by omega)).mpr zz)
              refine go_blk (pc2 := 104) (L2 := [.ref 27, .int p, .int q, .int r1]) (st2 := [.int ((A 27 4) + 1)]) (M2 := ((u2 (u2 (u2 (u2 A 30 (3 * ncl) p) 30 ((3 * ncl) + 1) q) 30 ((3 * ncl) + 2) r1) 27 4 ((A 27 4) + 1)), G, PF)) (hs2 := []) (C := ((3 * (A 27 4)) = nI (3 * ncl) ∧ (3 * ncl) < 24) ∧ (((3 * (A 27 4)) + 1) = nI ((3 * ncl) + 1) ∧ ((3 * ncl) + 1) < 24) ∧ (((3 * (A 27 4)) + 2) = nI ((3 * ncl) + 2) ∧ ((3 * ncl) + 2) < 24) ∧ True) [(.aload_n 0, 0, 0), (.getfield 16, 6, 2), (.iconst 3, 0, 0), (.aload_n 0, 0, 0), (.getfield 63, 6, 4), (.imul, 0, 0), (.iload_n 1, 0, 0), (.iastore, 0, 0), (.aload_n 0, 0, 0), (.getfield 16, 6, 2), (.iconst 3, 0, 0), (.aload_n 0, 0, 0), (.getfield 63, 6, 4), (.imul, 0, 0), (.iconst 1, 0, 0), (.iadd, 0, 0), (.iload_n 2, 0, 0), (.iastore, 0, 0), (.aload_n 0, 0, 0), (.getfield 16, 6, 2), (.iconst 3, 0, 0), (.aload_n 0, 0, 0), (.getfield 63, 6, 4), (.imul, 0, 0), (.iconst 2, 0, 0), (.iadd, 0, 0), (.iload_n 3, 0, 0), (.iastore, 0, 0), (.aload_n 0, 0, 0), (.dup, 0, 0), (.getfield 63, 6, 4), (.iconst 1, 0, 0), (.iadd, 0, 0), (.dup_x1, 0, 0), (.putfield 63, 6, 4)] [(3 * ncl), ((3 * ncl) + 1), ((3 * ncl) + 2)] (by decide +kernel) rfl ⟨⟨(by first | rfl | (simp only [hn, nI, Int32.ofNat_add, Int32.ofNat_mul]; done) | (simp only [hn, nI, Int32.ofNat_add, Int32.ofNat_mul]; rfl)), by omega⟩, ⟨(by first | rfl | (simp only [hn, nI, Int32.ofNat_add, Int32.ofNat_mul]; done) | (simp only [hn, nI, Int32.ofNat_add, Int32.ofNat_mul]; rfl)), by omega⟩, ⟨(by first | rfl | (simp only [hn, nI, Int32.ofNat_add, Int32.ofNat_mul]; done) | (simp only [hn, nI, Int32.ofNat_add, Int32.ofNat_mul]; rfl)), by omega⟩, trivial⟩ ?_
              exact go_reti (by decide +kernel) rfl (Or.inl ⟨⟨by assumption, by first | exact Or.inl (by assumption) | exact Or.inr (by assumption), by first | exact Or.inl (by assumption) | exact Or.inr ⟨by assumption, by assumption⟩⟩, by omega, rfl, rfl⟩)
            · skip
              replace c9 : ncl = 8 := (nx_eq (a := ncl) (b := 8) hn rfl (by omega) (by omega)).mp c9
              refine go_blk (pc2 := 52) (L2 := [.ref 27, .int p, .int q, .int r1]) (st2 := [.int (-2)]) (M2 := (A, G, PF)) (hs2 := []) (C := True) [(.bipush (-2), 0, 0)] [] (by decide +kernel) rfl trivial ?_
              exact go_reti (by decide +kernel) rfl (Or.inr (Or.inl ⟨⟨by assumption, by first | exact Or.inl (by assumption) | exact Or.inr (by assumption), by first | exact Or.inl (by assumption) | exact Or.inr ⟨by assumption, by assumption⟩⟩, by omega, rfl, rfl⟩))
          · rw [bi_f hb8]
            show Go l ro0 mX6_clause 39 (A, G, PF) 36 [.ref 27, .int p, .int q, .int r1] [.int 0] 39 _
            refine go_ifz (cnd := .ne) (off := 5) 41 (by decide +kernel) (by decide) (fun (h : ¬ (0 : Int32) = 0) => absurd h (by decide)) (fun _ => ?_)
            refine go_blk (pc2 := 40) (L2 := [.ref 27, .int p, .int q, .int r1]) (st2 := [.int (-1)]) (M2 := (A, G, PF)) (hs2 := []) (C := True) [(.iconst (-1), 0, 0)] [] (by decide +kernel) rfl trivial ?_
            exact go_reti (by decide +kernel) rfl (Or.inr (Or.inr ⟨by rintro ⟨z1, z2, z3⟩; simp_all, rfl, rfl⟩))
    · skip
      refine go_blk (pc2 := 15) (L2 := [.ref 27, .int p, .int q, .int r1]) (st2 := [.int q, .ref 27]) (M2 := (A, G, PF)) (hs2 := []) (C := True) [(.aload_n 0, 0, 0), (.iload_n 2, 0, 0)] [] (by decide +kernel) rfl trivial ?_
      refine go_call (Y2 := mX6_isLiteral) (n2 := 39) (st := []) [.ref 27] [.int q] ck_6_59 cwX6_isLiteral rfl (by decide +kernel) rfl (fun h => absurd h (by decide)) (fun _ => ⟨27, rfl, by decide, rfl⟩) (Nat.le_of_ble_eq_true rfl) (Or.inl rfl) (fun _ _ _ h => h) (s_X6_isLiteral l A G q) (fun v M2 hp10 => ?_)
      obtain ⟨rfl, rfl⟩ := hp10
      rcases Classical.em (Lit A q) with hb11 | hb11
      · rw [bi_t hb11]
        show Go l ro0 mX6_clause 39 (A, G, PF) 18 [.ref 27, .int p, .int q, .int r1] [.int 1] 39 _
        refine go_ifz (cnd := .eq) (off := 21) 39 (by decide +kernel) (by decide) (fun (h : (1 : Int32) = 0) => absurd h (by decide)) (fun _ => ?_)
        refine go_blk (pc2 := 23) (L2 := [.ref 27, .int p, .int q, .int r1]) (st2 := [.int (-1), .int r1]) (M2 := (A, G, PF)) (hs2 := []) (C := True) [(.iload_n 3, 0, 0), (.iconst (-1), 0, 0)] [] (by decide +kernel) rfl trivial ?_
        refine go_cmp (cnd := .eq) (off := 18) 41 (by decide +kernel) (by decide) (fun (c12 : r1 = (-1)) => ?_) (fun (c12 : ¬ r1 = (-1)) => ?_)
        · skip
          refine go_blk (pc2 := 47) (L2 := [.ref 27, .int p, .int q, .int r1]) (st2 := [.int 8, .int (A 27 4)]) (M2 := (A, G, PF)) (hs2 := []) (C := True) [(.aload_n 0, 0, 0), (.getfield 63, 6, 4), (.bipush 8, 0, 0)] [] (by decide +kernel) rfl trivial ?_
          refine go_cmp (cnd := .ne) (off := 6) 53 (by decide +kernel) (by decide) (fun (c13 : ¬ (A 27 4) = 8) => ?_) (fun (c13 : (A 27 4) = 8) => ?_)
          · skip
            replace c13 : ¬ ncl = 8 := fun zz => c13 ((nx_eq (a := ncl) (b := 8) hn rfl (by omega) (by omega)).mpr zz)
            refine go_blk (pc2 := 104) (L2 := [.ref 27, .int p, .int q, .int r1]) (st2 := [.int ((A 27 4) + 1)]) (M2 := ((u2 (u2 (u2 (u2 A 30 (3 * ncl) p) 30 ((3 * ncl) + 1) q) 30 ((3 * ncl) + 2) r1) 27 4 ((A 27 4) + 1)), G, PF)) (hs2 := []) (C := ((3 * (A 27 4)) = nI (3 * ncl) ∧ (3 * ncl) < 24) ∧ (((3 * (A 27 4)) + 1) = nI ((3 * ncl) + 1) ∧ ((3 * ncl) + 1) < 24) ∧ (((3 * (A 27 4)) + 2) = nI ((3 * ncl) + 2) ∧ ((3 * ncl) + 2) < 24) ∧ True) [(.aload_n 0, 0, 0), (.getfield 16, 6, 2), (.iconst 3, 0, 0), (.aload_n 0, 0, 0), (.getfield 63, 6, 4), (.imul, 0, 0), (.iload_n 1, 0, 0), (.iastore, 0, 0), (.aload_n 0, 0, 0), (.getfield 16, 6, 2), (.iconst 3, 0, 0), (.aload_n 0, 0, 0), (.getfield 63, 6, 4), (.imul, 0, 0), (.iconst 1, 0, 0), (.iadd, 0, 0), (.iload_n 2, 0, 0), (.iastore, 0, 0), (.aload_n 0, 0, 0), (.getfield 16, 6, 2), (.iconst 3, 0, 0), (.aload_n 0, 0, 0), (.getfield 63, 6, 4), (.imul, 0, 0), (.iconst 2, 0, 0), (.iadd, 0, 0), (.iload_n 3, 0, 0), (.iastore, 0, 0), (.aload_n 0, 0, 0), (.dup, 0, 0), (.getfield 63, 6, 4), (.iconst 1, 0, 0), (.iadd, 0, 0), (.dup_x1, 0, 0), (.putfield 63, 6, 4)] [(3 * ncl), ((3 * ncl) + 1), ((3 * ncl) + 2)] (by decide +kernel) rfl ⟨⟨(by first | rfl | (simp only [hn, nI, Int32.ofNat_add, Int32.ofNat_mul]; done) | (simp only [hn, nI, Int32.ofNat_add, Int32.ofNat_mul]; rfl)), by omega⟩, ⟨(by first | rfl | (simp only [hn, nI, Int32.ofNat_add, Int32.ofNat_mul]; done) | (simp only [hn, nI, Int32.ofNat_add, Int32.ofNat_mul]; rfl)), by omega⟩, ⟨(by first | rfl | (simp only [hn, nI, Int32.ofNat_add, Int32.ofNat_mul]; done) | (simp only [hn, nI, Int32.ofNat_add, Int32.ofNat_mul]; rfl)), by omega⟩, trivial⟩ ?_
            exact go_reti (by decide +kernel) rfl (Or.inl ⟨⟨by assumption, by first | exact Or.inl (by assumption) | exact Or.inr (by assumption), by first | exact Or.inl (by assumption) | exact Or.inr ⟨by assumption, by assumption⟩⟩, by omega, rfl, rfl⟩)
          · skip
            replace c13 : ncl = 8 := (nx_eq (a := ncl) (b := 8) hn rfl (by omega) (by omega)).mp c13
            refine go_blk (pc2 := 52) (L2 := [.ref 27, .int p, .int q, .int r1]) (st2 := [.int (-2)]) (M2 := (A, G, PF)) (hs2 := []) (C := True) [(.bipush (-2), 0, 0)] [] (by decide +kernel) rfl trivial ?_
            exact go_reti (by decide +kernel) rfl (Or.inr (Or.inl ⟨⟨by assumption, by first | exact Or.inl (by assumption) | exact Or.inr (by assumption), by first | exact Or.inl (by assumption) | exact Or.inr ⟨by assumption, by assumption⟩⟩, by omega, rfl, rfl⟩))
        · skip
          refine go_blk (pc2 := 28) (L2 := [.ref 27, .int p, .int q, .int r1]) (st2 := [.int (-1), .int q]) (M2 := (A, G, PF)) (hs2 := []) (C := True) [(.iload_n 2, 0, 0), (.iconst (-1), 0, 0)] [] (by decide +kernel) rfl trivial ?_
          refine go_cmp (cnd := .eq) (off := 11) 39 (by decide +kernel) (by decide) (fun (c14 : q = (-1)) => ?_) (fun (c14 : ¬ q = (-1)) => ?_)
          · skip
            refine go_blk (pc2 := 40) (L2 := [.ref 27, .int p, .int q, .int r1]) (st2 := [.int (-1)]) (M2 := (A, G, PF)) (hs2 := []) (C := True) [(.iconst (-1), 0, 0)] [] (by decide +kernel) rfl trivial ?_
            exact go_reti (by decide +kernel) rfl (Or.inr (Or.inr ⟨by rintro ⟨z1, z2, z3⟩; simp_all, rfl, rfl⟩))
          · skip
            refine go_blk (pc2 := 33) (L2 := [.ref 27, .int p, .int q, .int r1]) (st2 := [.int r1, .ref 27]) (M2 := (A, G, PF)) (hs2 := []) (C := True) [(.aload_n 0, 0, 0), (.iload_n 3, 0, 0)] [] (by decide +kernel) rfl trivial ?_
            refine go_call (Y2 := mX6_isLiteral) (n2 := 39) (st := []) [.ref 27] [.int r1] ck_6_59 cwX6_isLiteral rfl (by decide +kernel) rfl (fun h => absurd h (by decide)) (fun _ => ⟨27, rfl, by decide, rfl⟩) (Nat.le_of_ble_eq_true rfl) (Or.inl rfl) (fun _ _ _ h => h) (s_X6_isLiteral l A G r1) (fun v M2 hp15 => ?_)
            obtain ⟨rfl, rfl⟩ := hp15
            rcases Classical.em (Lit A r1) with hb16 | hb16
            · rw [bi_t hb16]
              show Go l ro0 mX6_clause 39 (A, G, PF) 36 [.ref 27, .int p, .int q, .int r1] [.int 1] 39 _
              refine go_ifz (cnd := .ne) (off := 5) 41 (by decide +kernel) (by decide) (fun _ => ?_) (fun (h : (1 : Int32) = 0) => absurd h (by decide))
              refine go_blk (pc2 := 47) (L2 := [.ref 27, .int p, .int q, .int r1]) (st2 := [.int 8, .int (A 27 4)]) (M2 := (A, G, PF)) (hs2 := []) (C := True) [(.aload_n 0, 0, 0), (.getfield 63, 6, 4), (.bipush 8, 0, 0)] [] (by decide +kernel) rfl trivial ?_
              refine go_cmp (cnd := .ne) (off := 6) 53 (by decide +kernel) (by decide) (fun (c17 : ¬ (A 27 4) = 8) => ?_) (fun (c17 : (A 27 4) = 8) => ?_)
              · skip
                replace c17 : ¬ ncl = 8 := fun zz => c17 ((nx_eq (a := ncl) (b := 8) hn rfl (by omega) (by omega)).mpr zz)
                refine go_blk (pc2 := 104) (L2 := [.ref 27, .int p, .int q, .int r1]) (st2 := [.int ((A 27 4) + 1)]) (M2 := ((u2 (u2 (u2 (u2 A 30 (3 * ncl) p) 30 ((3 * ncl) + 1) q) 30 ((3 * ncl) + 2) r1) 27 4 ((A 27 4) + 1)), G, PF)) (hs2 := []) (C := ((3 * (A 27 4)) = nI (3 * ncl) ∧ (3 * ncl) < 24) ∧ (((3 * (A 27 4)) + 1) = nI ((3 * ncl) + 1) ∧ ((3 * ncl) + 1) < 24) ∧ (((3 * (A 27 4)) + 2) = nI ((3 * ncl) + 2) ∧ ((3 * ncl) + 2) < 24) ∧ True) [(.aload_n 0, 0, 0), (.getfield 16, 6, 2), (.iconst 3, 0, 0), (.aload_n 0, 0, 0), (.getfield 63, 6, 4), (.imul, 0, 0), (.iload_n 1, 0, 0), (.iastore, 0, 0), (.aload_n 0, 0, 0), (.getfield 16, 6, 2), (.iconst 3, 0, 0), (.aload_n 0, 0, 0), (.getfield 63, 6, 4), (.imul, 0, 0), (.iconst 1, 0, 0), (.iadd, 0, 0), (.iload_n 2, 0, 0), (.iastore, 0, 0), (.aload_n 0, 0, 0), (.getfield 16, 6, 2), (.iconst 3, 0, 0), (.aload_n 0, 0, 0), (.getfield 63, 6, 4), (.imul, 0, 0), (.iconst 2, 0, 0), (.iadd, 0, 0), (.iload_n 3, 0, 0), (.iastore, 0, 0), (.aload_n 0, 0, 0), (.dup, 0, 0), (.getfield 63, 6, 4), (.iconst 1, 0, 0), (.iadd, 0, 0), (.dup_x1, 0, 0), (.putfield 63, 6, 4)] [(3 * ncl), ((3 * ncl) + 1), ((3 * ncl) + 2)] (by decide +kernel) rfl ⟨⟨(by first | rfl | (simp only [hn, nI, Int32.ofNat_add, Int32.ofNat_mul]; done) | (simp only [hn, nI, Int32.ofNat_add, Int32.ofNat_mul]; rfl)), by omega⟩, ⟨(by first | rfl | (simp only [hn, nI, Int32.ofNat_add, Int32.ofNat_mul]; done) | (simp only [hn, nI, Int32.ofNat_add, Int32.ofNat_mul]; rfl)), by omega⟩, ⟨(by first | rfl | (simp only [hn, nI, Int32.ofNat_add, Int32.ofNat_mul]; done) | (simp only [hn, nI, Int32.ofNat_add, Int32.ofNat_mul]; rfl)), by omega⟩, trivial⟩ ?_
                exact go_reti (by decide +kernel) rfl (Or.inl ⟨⟨by assumption, by first | exact Or.inl (by assumption) | exact Or.inr (by assumption), by first | exact Or.inl (by assumption) | exact Or.inr ⟨by assumption, by assumption⟩⟩, by omega, rfl, rfl⟩)
              · skip
                replace c17 : ncl = 8 := (nx_eq (a := ncl) (b := 8) hn rfl (by omega) (by omega)).mp c17
                refine go_blk (pc2 := 52) (L2 := [.ref 27, .int p, .int q, .int r1]) (st2 := [.int (-2)]) (M2 := (A, G, PF)) (hs2 := []) (C := True) [(.bipush (-2), 0, 0)] [] (by decide +kernel) rfl trivial ?_
                exact go_reti (by decide +kernel) rfl (Or.inr (Or.inl ⟨⟨by assumption, by first | exact Or.inl (by assumption) | exact Or.inr (by assumption), by first | exact Or.inl (by assumption) | exact Or.inr ⟨by assumption, by assumption⟩⟩, by omega, rfl, rfl⟩))
            · rw [bi_f hb16]
              show Go l ro0 mX6_clause 39 (A, G, PF) 36 [.ref 27, .int p, .int q, .int r1] [.int 0] 39 _
              refine go_ifz (cnd := .ne) (off := 5) 41 (by decide +kernel) (by decide) (fun (h : ¬ (0 : Int32) = 0) => absurd h (by decide)) (fun _ => ?_)
              refine go_blk (pc2 := 40) (L2 := [.ref 27, .int p, .int q, .int r1]) (st2 := [.int (-1)]) (M2 := (A, G, PF)) (hs2 := []) (C := True) [(.iconst (-1), 0, 0)] [] (by decide +kernel) rfl trivial ?_
              exact go_reti (by decide +kernel) rfl (Or.inr (Or.inr ⟨by rintro ⟨z1, z2, z3⟩; simp_all, rfl, rfl⟩))
      · rw [bi_f hb11]
        show Go l ro0 mX6_clause 39 (A, G, PF) 18 [.ref 27, .int p, .int q, .int r1] [.int 0] 39 _
        refine go_ifz (cnd := .eq) (off := 21) 39 (by decide +kernel) (by decide) (fun _ => ?_) (fun (h : ¬ (0 : Int32) = 0) => absurd h (by decide))
        refine go_blk (pc2 := 40) (L2 := [.ref 27, .int p, .int q, .int r1]) (st2 := [.int (-1)]) (M2 := (A, G, PF)) (hs2 := []) (C := True) [(.iconst (-1), 0, 0)] [] (by decide +kernel) rfl trivial ?_
        exact go_reti (by decide +kernel) rfl (Or.inr (Or.inr ⟨by rintro ⟨z1, z2, z3⟩; simp_all, rfl, rfl⟩))
  · rw [bi_f hb2]
    show Go l ro0 mX6_clause 39 (A, G, PF) 5 [.ref 27, .int p, .int q, .int r1] [.int 0] 39 _
    refine go_ifz (cnd := .eq) (off := 34) 39 (by decide +kernel) (by decide) (fun _ => ?_) (fun (h : ¬ (0 : Int32) = 0) => absurd h (by decide))
    refine go_blk (pc2 := 40) (L2 := [.ref 27, .int p, .int q, .int r1]) (st2 := [.int (-1)]) (M2 := (A, G, PF)) (hs2 := []) (C := True) [(.iconst (-1), 0, 0)] [] (by decide +kernel) rfl trivial ?_
    exact go_reti (by decide +kernel) rfl (Or.inr (Or.inr ⟨by rintro ⟨z1, z2, z3⟩; simp_all, rfl, rfl⟩))
set_option maxRecDepth 100000 in
set_option maxHeartbeats 4000000 in
theorem s_X6_push (l : Launch) (A : Nat → Nat → Int32) (G : Nat → Nat → Int64) (lv : Nat) (hlv : A 27 5 = nI lv) (hlv4 : lv ≤ 4) : Sem l mX6_push [.ref 27] 39 (A, G, PF) 39 (fun r M2 => (lv < 4 ∧ r = some (.int (A 27 5 + 1)) ∧ M2 = ((u2 (u2 A 31 lv (A 27 4)) 27 5 (A 27 5 + 1)), G, PF)) ∨ (lv = 4 ∧ r = some (.int (-2)) ∧ M2 = (A, G, PF))) := by
  refine sem_of_go (by decide) rfl (by decide) (by decide) rfl (Nat.le_of_ble_eq_true rfl) ?_
  show Go l ro0 mX6_push 39 (A, G, PF) 0 [.ref 27] [] 39 (fun r M2 => (lv < 4 ∧ r = some (.int (A 27 5 + 1)) ∧ M2 = ((u2 (u2 A 31 lv (A 27 4)) 27 5 (A 27 5 + 1)), G, PF)) ∨ (lv = 4 ∧ r = some (.int (-2)) ∧ M2 = (A, G, PF)))
  refine go_blk (pc2 := 5) (L2 := [.ref 27]) (st2 := [.int 4, .int (A 27 5)]) (M2 := (A, G, PF)) (hs2 := []) (C := True) [(.aload_n 0, 0, 0), (.getfield 67, 6, 5), (.iconst 4, 0, 0)] [] (by decide +kernel) rfl trivial ?_
  refine go_cmp (cnd := .ne) (off := 6) 11 (by decide +kernel) (by decide) (fun (c1 : ¬ (A 27 5) = 4) => ?_) (fun (c1 : (A 27 5) = 4) => ?_)
  · skip
    replace c1 : ¬ lv = 4 := fun zz => c1 ((nx_eq (a := lv) (b := 4) hlv rfl (by omega) (by omega)).mpr zz)
    refine go_blk (pc2 := 35) (L2 := [.ref 27]) (st2 := [.int ((A 27 5) + 1)]) (M2 := ((u2 (u2 A 31 lv (A 27 4)) 27 5 ((A 27 5) + 1)), G, PF)) (hs2 := []) (C := ((A 27 5) = nI lv ∧ lv < 4) ∧ True) [(.aload_n 0, 0, 0), (.getfield 19, 6, 3), (.aload_n 0, 0, 0), (.getfield 67, 6, 5), (.aload_n 0, 0, 0), (.getfield 63, 6, 4), (.iastore, 0, 0), (.aload_n 0, 0, 0), (.dup, 0, 0), (.getfield 67, 6, 5), (.iconst 1, 0, 0), (.iadd, 0, 0), (.dup_x1, 0, 0), (.putfield 67, 6, 5)] [lv] (by decide +kernel) rfl ⟨⟨hlv, by omega⟩, trivial⟩ ?_
    exact go_reti (by decide +kernel) rfl (Or.inl ⟨by omega, rfl, rfl⟩)
  · skip
    replace c1 : lv = 4 := (nx_eq (a := lv) (b := 4) hlv rfl (by omega) (by omega)).mp c1
    refine go_blk (pc2 := 10) (L2 := [.ref 27]) (st2 := [.int (-2)]) (M2 := (A, G, PF)) (hs2 := []) (C := True) [(.bipush (-2), 0, 0)] [] (by decide +kernel) rfl trivial ?_
    exact go_reti (by decide +kernel) rfl (Or.inr ⟨by omega, rfl, rfl⟩)
set_option maxRecDepth 100000 in
set_option maxHeartbeats 4000000 in
theorem s_X6_pop (l : Launch) (A : Nat → Nat → Int32) (G : Nat → Nat → Int64) (lv : Nat) (hlv : A 27 5 = nI lv) (hlv4 : lv ≤ 4) : Sem l mX6_pop [.ref 27] 39 (A, G, PF) 39 (fun r M2 => (0 < lv ∧ r = some (.int (A 27 5 - 1)) ∧ M2 = ((u2 (u2 A 27 5 ((A 27 5) - 1)) 27 4 (A 31 (lv - 1))), G, PF)) ∨ (lv = 0 ∧ r = some (.int (-1)) ∧ M2 = (A, G, PF))) := by
  refine sem_of_go (by decide) rfl (by decide) (by decide) rfl (Nat.le_of_ble_eq_true rfl) ?_
  show Go l ro0 mX6_pop 39 (A, G, PF) 0 [.ref 27] [] 39 (fun r M2 => (0 < lv ∧ r = some (.int (A 27 5 - 1)) ∧ M2 = ((u2 (u2 A 27 5 ((A 27 5) - 1)) 27 4 (A 31 (lv - 1))), G, PF)) ∨ (lv = 0 ∧ r = some (.int (-1)) ∧ M2 = (A, G, PF)))
  have hlm : 0 < lv → A 27 5 - 1 = nI (lv - 1) := fun zz => by rw [hlv]; exact pk_sub zz
  refine go_blk (pc2 := 4) (L2 := [.ref 27]) (st2 := [.int (A 27 5)]) (M2 := (A, G, PF)) (hs2 := []) (C := True) [(.aload_n 0, 0, 0), (.getfield 67, 6, 5)] [] (by decide +kernel) rfl trivial ?_
  refine go_ifz (cnd := .ne) (off := 5) 9 (by decide +kernel) (by decide) (fun (c1 : ¬ (A 27 5) = 0) => ?_) (fun (c1 : (A 27 5) = 0) => ?_)
  · skip
    replace c1 : ¬ lv = 0 := fun zz => c1 ((nx_eq (a := lv) (b := 0) hlv rfl (by omega) (by omega)).mpr zz)
    refine go_blk (pc2 := 36) (L2 := [.ref 27]) (st2 := [.int ((A 27 5) - 1)]) (M2 := ((u2 (u2 A 27 5 ((A 27 5) - 1)) 27 4 (A 31 (lv - 1))), G, PF)) (hs2 := []) (C := (((A 27 5) - 1) = nI (lv - 1) ∧ (lv - 1) < 4) ∧ True) [(.aload_n 0, 0, 0), (.dup, 0, 0), (.getfield 67, 6, 5), (.iconst 1, 0, 0), (.isub, 0, 0), (.putfield 67, 6, 5), (.aload_n 0, 0, 0), (.aload_n 0, 0, 0), (.getfield 19, 6, 3), (.aload_n 0, 0, 0), (.getfield 67, 6, 5), (.iaload, 0, 0), (.putfield 63, 6, 4), (.aload_n 0, 0, 0), (.getfield 67, 6, 5)] [(lv - 1)] (by decide +kernel) rfl ⟨⟨(hlm (by omega)), by omega⟩, trivial⟩ ?_
    exact go_reti (by decide +kernel) rfl (Or.inl ⟨by omega, rfl, rfl⟩)
  · skip
    replace c1 : lv = 0 := (nx_eq (a := lv) (b := 0) hlv rfl (by omega) (by omega)).mp c1
    refine go_blk (pc2 := 8) (L2 := [.ref 27]) (st2 := [.int (-1)]) (M2 := (A, G, PF)) (hs2 := []) (C := True) [(.iconst (-1), 0, 0)] [] (by decide +kernel) rfl trivial ?_
    exact go_reti (by decide +kernel) rfl (Or.inr ⟨by omega, rfl, rfl⟩)
set_option maxRecDepth 100000 in
set_option maxHeartbeats 4000000 in
theorem lp_X6_ofKind (l : Launch) (A : Nat → Nat → Int32) (G : Nat → Nat → Int64) (w : Int32) : ∀ k, k ≤ 5 → Go l ro0 mX6_ofKind 39 (A, G, PF) 4 [.ref 27, .int w, .int (okf A w k), .int (nI k)] [] 39 (pv (okf A w 5) (A, G, PF)) := by
  refine down 5 (fun k hk ih  => ?_)
  refine go_blk (pc2 := 6) (L2 := [.ref 27, .int w, .int (okf A w k), .int (nI k)]) (st2 := [.int 5, .int (nI k)]) (M2 := (A, G, PF)) (hs2 := []) (C := True) [(.iload_n 3, 0, 0), (.iconst 5, 0, 0)] [] (by decide +kernel) rfl trivial ?_
  refine go_cmp (cnd := .ge) (off := 25) 31 (by decide +kernel) (by decide) (fun (c1 : 5 ≤ (nI k)) => ?_) (fun (c1 : ¬ 5 ≤ (nI k)) => ?_)
  · skip
    replace c1 : 5 ≤ k := (nx_le (a := 5) (b := k) rfl rfl (by omega) (by omega)).mp c1
    refine go_blk (pc2 := 32) (L2 := [.ref 27, .int w, .int (okf A w k), .int (nI k)]) (st2 := [.int (okf A w k)]) (M2 := (A, G, PF)) (hs2 := []) (C := True) [(.iload_n 2, 0, 0)] [] (by decide +kernel) rfl trivial ?_
    exact go_reti (by decide +kernel) rfl (pve (by rw [show k = 5 by omega]))
  · skip
    replace c1 : ¬ 5 ≤ k := fun zz => c1 ((nx_le (a := 5) (b := k) rfl rfl (by omega) (by omega)).mpr zz)
    refine go_blk (pc2 := 16) (L2 := [.ref 27, .int w, .int (okf A w k), .int (nI k)]) (st2 := [.int w, .int (A 28 k)]) (M2 := (A, G, PF)) (hs2 := []) (C := ((nI k) = nI k ∧ k < 5) ∧ True) [(.aload_n 0, 0, 0), (.getfield 7, 6, 0), (.iload_n 3, 0, 0), (.iaload, 0, 0), (.iload_n 1, 0, 0)] [k] (by decide +kernel) rfl ⟨⟨rfl, by omega⟩, trivial⟩ ?_
    refine go_cmp (cnd := .ne) (off := 9) 25 (by decide +kernel) (by decide) (fun (c2 : ¬ (A 28 k) = w) => ?_) (fun (c2 : (A 28 k) = w) => ?_)
    · skip
      refine go_blk (pc2 := 28) (L2 := [.ref 27, .int w, .int (okf A w k), .int ((nI k) + 1)]) (st2 := []) (M2 := (A, G, PF)) (hs2 := []) (C := True) [(.iinc 3 1, 0, 0)] [] (by decide +kernel) rfl trivial ?_
      refine go_goto (off := -24) 4 (by decide +kernel) (by decide) ?_
      exact go_as (ih (by omega) ) rfl (by simp [okf, nI_1, *]) rfl
    · skip
      refine go_blk (pc2 := 28) (L2 := [.ref 27, .int w, .int ((okf A w k) ||| (1 <<< ((nI k) &&& 31))), .int ((nI k) + 1)]) (st2 := []) (M2 := (A, G, PF)) (hs2 := []) (C := True) [(.iload_n 2, 0, 0), (.iconst 1, 0, 0), (.iload_n 3, 0, 0), (.ishl, 0, 0), (.ior, 0, 0), (.istore_n 2, 0, 0), (.iinc 3 1, 0, 0)] [] (by decide +kernel) rfl trivial ?_
      refine go_goto (off := -24) 4 (by decide +kernel) (by decide) ?_
      exact go_as (ih (by omega) ) rfl (by simp [okf, nI_1, *]) rfl
set_option maxRecDepth 100000 in
set_option maxHeartbeats 4000000 in
theorem s_X6_ofKind (l : Launch) (A : Nat → Nat → Int32) (G : Nat → Nat → Int64) (w : Int32) : Sem l mX6_ofKind [.ref 27, .int w] 39 (A, G, PF) 39 (pv (okf A w 5) (A, G, PF)) := by
  refine sem_of_go (by decide) rfl (by decide) (by decide) rfl (Nat.le_of_ble_eq_true rfl) ?_
  show Go l ro0 mX6_ofKind 39 (A, G, PF) 0 [.ref 27, .int w, .null, .null] [] 39 (pv (okf A w 5) (A, G, PF))
  refine go_blk (pc2 := 4) (L2 := [.ref 27, .int w, .int 0, .int 0]) (st2 := []) (M2 := (A, G, PF)) (hs2 := []) (C := True) [(.iconst 0, 0, 0), (.istore_n 2, 0, 0), (.iconst 0, 0, 0), (.istore_n 3, 0, 0)] [] (by decide +kernel) rfl trivial ?_
  exact lp_X6_ofKind l A G w 0 (by omega)
set_option maxRecDepth 100000 in
set_option maxHeartbeats 4000000 in
theorem s_X6_defined (l : Launch) (A : Nat → Nat → Int32) (G : Nat → Nat → Int64) : Sem l mX6_defined [.ref 27] 39 (A, G, PF) 39 (pv (31 &&& (okf A 0 5 ^^^ (-1))) (A, G, PF)) := by
  refine sem_of_go (by decide) rfl (by decide) (by decide) rfl (Nat.le_of_ble_eq_true rfl) ?_
  show Go l ro0 mX6_defined 39 (A, G, PF) 0 [.ref 27] [] 39 (pv (31 &&& (okf A 0 5 ^^^ (-1))) (A, G, PF))
  refine go_blk (pc2 := 4) (L2 := [.ref 27]) (st2 := [.int 0, .ref 27, .int 31]) (M2 := (A, G, PF)) (hs2 := []) (C := True) [(.bipush 31, 0, 0), (.aload_n 0, 0, 0), (.iconst 0, 0, 0)] [] (by decide +kernel) rfl trivial ?_
  refine go_call (Y2 := mX6_ofKind) (n2 := 39) (st := [.int 31]) [.ref 27] [.int 0] ck_6_87 cwX6_ofKind rfl (by decide +kernel) rfl (fun h => absurd h (by decide)) (fun _ => ⟨27, rfl, by decide, rfl⟩) (Nat.le_of_ble_eq_true rfl) (Or.inl rfl) (fun _ _ _ h => h) (s_X6_ofKind l A G 0) (fun v M2 hp1 => ?_)
  obtain ⟨rfl, rfl⟩ := hp1
  show Go l ro0 mX6_defined 39 (A, G, PF) 7 [.ref 27] [.int (okf A 0 5), .int 31] 39 _
  refine go_blk (pc2 := 10) (L2 := [.ref 27]) (st2 := [.int (31 &&& ((okf A 0 5) ^^^ (-1)))]) (M2 := (A, G, PF)) (hs2 := []) (C := True) [(.iconst (-1), 0, 0), (.ixor, 0, 0), (.iand, 0, 0)] [] (by decide +kernel) rfl trivial ?_
  exact go_reti (by decide +kernel) rfl (⟨rfl, rfl⟩)
set_option maxRecDepth 100000 in
set_option maxHeartbeats 4000000 in
theorem s_X6_isLinear (l : Launch) (A : Nat → Nat → Int32) (G : Nat → Nat → Int64) (k : Nat) (hk : k < 5) : Sem l mX6_isLinear [.ref 27, .int (nI k)] 39 (A, G, PF) 39 (pv (bi (Lin A k)) (A, G, PF)) := by
  refine sem_of_go (by decide) rfl (by decide) (by decide) rfl (Nat.le_of_ble_eq_true rfl) ?_
  show Go l ro0 mX6_isLinear 39 (A, G, PF) 0 [.ref 27, .int (nI k)] [] 39 (pv (bi (Lin A k)) (A, G, PF))
  refine go_blk (pc2 := 7) (L2 := [.ref 27, .int (nI k)]) (st2 := [.int 1, .int (A 28 k)]) (M2 := (A, G, PF)) (hs2 := []) (C := ((nI k) = nI k ∧ k < 5) ∧ True) [(.aload_n 0, 0, 0), (.getfield 7, 6, 0), (.iload_n 1, 0, 0), (.iaload, 0, 0), (.iconst 1, 0, 0)] [k] (by decide +kernel) rfl ⟨⟨rfl, by omega⟩, trivial⟩ ?_
  refine go_cmp (cnd := .eq) (off := 13) 20 (by decide +kernel) (by decide) (fun (c1 : (A 28 k) = 1) => ?_) (fun (c1 : ¬ (A 28 k) = 1) => ?_)
  · skip
    refine go_blk (pc2 := 21) (L2 := [.ref 27, .int (nI k)]) (st2 := [.int 1]) (M2 := (A, G, PF)) (hs2 := []) (C := True) [(.iconst 1, 0, 0)] [] (by decide +kernel) rfl trivial ?_
    refine go_goto (off := 4) 25 (by decide +kernel) (by decide) ?_
    exact go_retz (by decide +kernel) rfl (Or.inr rfl) (pv1 (by simp only [Lin]; simp_all))
  · skip
    refine go_blk (pc2 := 17) (L2 := [.ref 27, .int (nI k)]) (st2 := [.int 2, .int (A 28 k)]) (M2 := (A, G, PF)) (hs2 := []) (C := ((nI k) = nI k ∧ k < 5) ∧ True) [(.aload_n 0, 0, 0), (.getfield 7, 6, 0), (.iload_n 1, 0, 0), (.iaload, 0, 0), (.iconst 2, 0, 0)] [k] (by decide +kernel) rfl ⟨⟨rfl, by omega⟩, trivial⟩ ?_
    refine go_cmp (cnd := .ne) (off := 7) 24 (by decide +kernel) (by decide) (fun (c2 : ¬ (A 28 k) = 2) => ?_) (fun (c2 : (A 28 k) = 2) => ?_)
    · skip
      refine go_blk (pc2 := 25) (L2 := [.ref 27, .int (nI k)]) (st2 := [.int 0]) (M2 := (A, G, PF)) (hs2 := []) (C := True) [(.iconst 0, 0, 0)] [] (by decide +kernel) rfl trivial ?_
      exact go_retz (by decide +kernel) rfl (Or.inl rfl) (pv0 (by simp only [Lin]; simp_all))
    · skip
      refine go_blk (pc2 := 21) (L2 := [.ref 27, .int (nI k)]) (st2 := [.int 1]) (M2 := (A, G, PF)) (hs2 := []) (C := True) [(.iconst 1, 0, 0)] [] (by decide +kernel) rfl trivial ?_
      refine go_goto (off := 4) 25 (by decide +kernel) (by decide) ?_
      exact go_retz (by decide +kernel) rfl (Or.inr rfl) (pv1 (by simp only [Lin]; simp_all))
def SameM (i j pt : Int32) : Prop := i = j ∨ ((i < 3 ∧ j < 3) ∧ ((pt >>> (((i + j) - 1) &&& 31)) &&& 1) = 1)
def BadM (A : Nat → Nat → Int32) (s : Nat) (pt : Int32) (k m : Nat) : Prop := (A 28 k = 3 ∧ A 28 m = 3 ∧ s.testBit k = true ∧ SameM (A 29 (4 * k)) (A 29 (4 * m)) pt) ∧ ¬ (SameM (A 29 (4 * k + 1)) (A 29 (4 * m + 1)) pt ↔ s.testBit m = true)
def FacM (A : Nat → Nat → Int32) (s : Nat) (pt : Int32) : Prop := ∀ k, k < 5 → ∀ m, m < 5 → ¬ BadM A s pt k m
set_option maxRecDepth 100000 in
set_option maxHeartbeats 4000000 in
theorem s_X6_same (l : Launch) (A : Nat → Nat → Int32) (G : Nat → Nat → Int64) (i j pt : Int32) : Sem l mX6_same [.int i, .int j, .int pt] 39 (A, G, PF) 39 (pv (bi (SameM i j pt)) (A, G, PF)) := by
  refine sem_of_go (by decide) rfl (by decide) (by decide) rfl (Nat.le_of_ble_eq_true rfl) ?_
  show Go l ro0 mX6_same 39 (A, G, PF) 0 [.int i, .int j, .int pt] [] 39 (pv (bi (SameM i j pt)) (A, G, PF))
  refine go_blk (pc2 := 2) (L2 := [.int i, .int j, .int pt]) (st2 := [.int j, .int i]) (M2 := (A, G, PF)) (hs2 := []) (C := True) [(.iload_n 0, 0, 0), (.iload_n 1, 0, 0)] [] (by decide +kernel) rfl trivial ?_
  refine go_cmp (cnd := .eq) (off := 26) 28 (by decide +kernel) (by decide) (fun (c1 : i = j) => ?_) (fun (c1 : ¬ i = j) => ?_)
  · skip
    refine go_blk (pc2 := 29) (L2 := [.int i, .int j, .int pt]) (st2 := [.int 1]) (M2 := (A, G, PF)) (hs2 := []) (C := True) [(.iconst 1, 0, 0)] [] (by decide +kernel) rfl trivial ?_
    refine go_goto (off := 4) 33 (by decide +kernel) (by decide) ?_
    exact go_retz (by decide +kernel) rfl (Or.inr rfl) (pv1 (by simp only [SameM]; grind))
  · skip
    refine go_blk (pc2 := 7) (L2 := [.int i, .int j, .int pt]) (st2 := [.int 3, .int i]) (M2 := (A, G, PF)) (hs2 := []) (C := True) [(.iload_n 0, 0, 0), (.iconst 3, 0, 0)] [] (by decide +kernel) rfl trivial ?_
    refine go_cmp (cnd := .ge) (off := 25) 32 (by decide +kernel) (by decide) (fun (c2 : 3 ≤ i) => ?_) (fun (c2 : ¬ 3 ≤ i) => ?_)
    · skip
      refine go_blk (pc2 := 33) (L2 := [.int i, .int j, .int pt]) (st2 := [.int 0]) (M2 := (A, G, PF)) (hs2 := []) (C := True) [(.iconst 0, 0, 0)] [] (by decide +kernel) rfl trivial ?_
      exact go_retz (by decide +kernel) rfl (Or.inl rfl) (pv0 (by simp only [SameM]; grind))
    · skip
      refine go_blk (pc2 := 12) (L2 := [.int i, .int j, .int pt]) (st2 := [.int 3, .int j]) (M2 := (A, G, PF)) (hs2 := []) (C := True) [(.iload_n 1, 0, 0), (.iconst 3, 0, 0)] [] (by decide +kernel) rfl trivial ?_
      refine go_cmp (cnd := .ge) (off := 20) 32 (by decide +kernel) (by decide) (fun (c3 : 3 ≤ j) => ?_) (fun (c3 : ¬ 3 ≤ j) => ?_)
      · skip
        refine go_blk (pc2 := 33) (L2 := [.int i, .int j, .int pt]) (st2 := [.int 0]) (M2 := (A, G, PF)) (hs2 := []) (C := True) [(.iconst 0, 0, 0)] [] (by decide +kernel) rfl trivial ?_
        exact go_retz (by decide +kernel) rfl (Or.inl rfl) (pv0 (by simp only [SameM]; grind))
      · skip
        refine go_blk (pc2 := 25) (L2 := [.int i, .int j, .int pt]) (st2 := [.int 1, .int ((pt >>> (((i + j) - 1) &&& 31)) &&& 1)]) (M2 := (A, G, PF)) (hs2 := []) (C := True) [(.iload_n 2, 0, 0), (.iload_n 0, 0, 0), (.iload_n 1, 0, 0), (.iadd, 0, 0), (.iconst 1, 0, 0), (.isub, 0, 0), (.ishr, 0, 0), (.iconst 1, 0, 0), (.iand, 0, 0), (.iconst 1, 0, 0)] [] (by decide +kernel) rfl trivial ?_
        refine go_cmp (cnd := .ne) (off := 7) 32 (by decide +kernel) (by decide) (fun (c4 : ¬ ((pt >>> (((i + j) - 1) &&& 31)) &&& 1) = 1) => ?_) (fun (c4 : ((pt >>> (((i + j) - 1) &&& 31)) &&& 1) = 1) => ?_)
        · skip
          refine go_blk (pc2 := 33) (L2 := [.int i, .int j, .int pt]) (st2 := [.int 0]) (M2 := (A, G, PF)) (hs2 := []) (C := True) [(.iconst 0, 0, 0)] [] (by decide +kernel) rfl trivial ?_
          exact go_retz (by decide +kernel) rfl (Or.inl rfl) (pv0 (by simp only [SameM]; grind))
        · skip
          refine go_blk (pc2 := 29) (L2 := [.int i, .int j, .int pt]) (st2 := [.int 1]) (M2 := (A, G, PF)) (hs2 := []) (C := True) [(.iconst 1, 0, 0)] [] (by decide +kernel) rfl trivial ?_
          refine go_goto (off := 4) 33 (by decide +kernel) (by decide) ?_
          exact go_retz (by decide +kernel) rfl (Or.inr rfl) (pv1 (by simp only [SameM]; grind))
set_option maxRecDepth 100000 in
set_option maxHeartbeats 4000000 in
theorem li_X6_factsFit (l : Launch) (A : Nat → Nat → Int32) (G : Nat → Nat → Int64) (s : Nat) (hs : s < 32) (pt : Int32) (k : Nat) (hk5 : k < 5) (hout : (∀ m, m < 5 → ¬ BadM A s pt k m) → ∀ j0 j1 j2 : Value, Go l ro0 mX6_factsFit 39 (A, G, PF) 2 [.ref 27, .int (nI s), .int pt, .int (nI (k + 1)), j0, j1, j2] [] 39 (pv (bi (FacM A s pt)) (A, G, PF))) : ∀ m, m ≤ 5 → (∀ m2, m2 < m → ¬ BadM A s pt k m2) → ∀ (j1 : Value) (j2 : Value), Go l ro0 mX6_factsFit 39 (A, G, PF) 10 [.ref 27, .int (nI s), .int pt, .int (nI k), .int (nI m), j1, j2] [] 39 (pv (bi (FacM A s pt)) (A, G, PF)) := by
  refine down 5 (fun m hk ih hinv j1 j2 => ?_)
  refine go_blk (pc2 := 13) (L2 := [.ref 27, .int (nI s), .int pt, .int (nI k), .int (nI m), j1, j2]) (st2 := [.int 5, .int (nI m)]) (M2 := (A, G, PF)) (hs2 := []) (C := True) [(.iload 4, 0, 0), (.iconst 5, 0, 0)] [] (by decide +kernel) rfl trivial ?_
  refine go_cmp (cnd := .ge) (off := 139) 152 (by decide +kernel) (by decide) (fun (c1 : 5 ≤ (nI m)) => ?_) (fun (c1 : ¬ 5 ≤ (nI m)) => ?_)
  · skip
    replace c1 : 5 ≤ m := (nx_le (a := 5) (b := m) rfl rfl (by omega) (by omega)).mp c1
    refine go_blk (pc2 := 155) (L2 := [.ref 27, .int (nI s), .int pt, .int ((nI k) + 1), .int (nI m), j1, j2]) (st2 := []) (M2 := (A, G, PF)) (hs2 := []) (C := True) [(.iinc 3 1, 0, 0)] [] (by decide +kernel) rfl trivial ?_
    refine go_goto (off := -153) 2 (by decide +kernel) (by decide) ?_
    exact go_as (hout (fun m2 h2 => hinv m2 (by omega)) (.int (nI m)) (j1) (j2)) rfl (by simp only [nI_1]) rfl
  · skip
    replace c1 : ¬ 5 ≤ m := fun zz => c1 ((nx_le (a := 5) (b := m) rfl rfl (by omega) (by omega)).mpr zz)
    refine go_blk (pc2 := 23) (L2 := [.ref 27, .int (nI s), .int pt, .int (nI k), .int (nI m), j1, j2]) (st2 := [.int 3, .int (A 28 k)]) (M2 := (A, G, PF)) (hs2 := []) (C := ((nI k) = nI k ∧ k < 5) ∧ True) [(.aload_n 0, 0, 0), (.getfield 7, 6, 0), (.iload_n 3, 0, 0), (.iaload, 0, 0), (.iconst 3, 0, 0)] [k] (by decide +kernel) rfl ⟨⟨rfl, by omega⟩, trivial⟩ ?_
    refine go_cmp (cnd := .ne) (off := 51) 74 (by decide +kernel) (by decide) (fun (c2 : ¬ (A 28 k) = 3) => ?_) (fun (c2 : (A 28 k) = 3) => ?_)
    · skip
      refine go_blk (pc2 := 99) (L2 := [.ref 27, .int (nI s), .int pt, .int (nI k), .int (nI m), .int 0, j2]) (st2 := [.int pt, .int (A 29 ((4 * m) + 1)), .int (A 29 ((4 * k) + 1))]) (M2 := (A, G, PF)) (hs2 := []) (C := (((4 * (nI k)) + 1) = nI ((4 * k) + 1) ∧ ((4 * k) + 1) < 20) ∧ (((4 * (nI m)) + 1) = nI ((4 * m) + 1) ∧ ((4 * m) + 1) < 20) ∧ True) [(.iconst 0, 0, 0), (.istore 5, 0, 0), (.aload_n 0, 0, 0), (.getfield 13, 6, 1), (.iconst 4, 0, 0), (.iload_n 3, 0, 0), (.imul, 0, 0), (.iconst 1, 0, 0), (.iadd, 0, 0), (.iaload, 0, 0), (.aload_n 0, 0, 0), (.getfield 13, 6, 1), (.iconst 4, 0, 0), (.iload 4, 0, 0), (.imul, 0, 0), (.iconst 1, 0, 0), (.iadd, 0, 0), (.iaload, 0, 0), (.iload_n 2, 0, 0)] [((4 * k) + 1), ((4 * m) + 1)] (by decide +kernel) rfl ⟨⟨(by first | rfl | (simp only [nI, Int32.ofNat_add, Int32.ofNat_mul]; done) | (simp only [nI, Int32.ofNat_add, Int32.ofNat_mul]; rfl)), by omega⟩, ⟨(by first | rfl | (simp only [nI, Int32.ofNat_add, Int32.ofNat_mul]; done) | (simp only [nI, Int32.ofNat_add, Int32.ofNat_mul]; rfl)), by omega⟩, trivial⟩ ?_
      refine go_call (Y2 := mX6_same) (n2 := 39) (st := []) [] [.int (A 29 ((4 * k) + 1)), .int (A 29 ((4 * m) + 1)), .int pt] ck_6_127 cwX6_same rfl (by decide +kernel) rfl (fun _ => rfl) (fun h => absurd rfl h) (Nat.le_of_ble_eq_true rfl) (Or.inl rfl) (fun _ _ _ h => h) (s_X6_same l A G (A 29 ((4 * k) + 1)) (A 29 ((4 * m) + 1)) pt) (fun v M2 hp3 => ?_)
      obtain ⟨rfl, rfl⟩ := hp3
      rcases Classical.em (SameM (A 29 ((4 * k) + 1)) (A 29 ((4 * m) + 1)) pt) with hb4 | hb4
      · rw [bi_t hb4]
        show Go l ro0 mX6_factsFit 39 (A, G, PF) 102 [.ref 27, .int (nI s), .int pt, .int (nI k), .int (nI m), .int 0, j2] [.int 1] 39 _
        refine go_blk (pc2 := 106) (L2 := [.ref 27, .int (nI s), .int pt, .int (nI k), .int (nI m), .int 0, .int 1]) (st2 := [.int 0]) (M2 := (A, G, PF)) (hs2 := []) (C := True) [(.istore 6, 0, 0), (.iload 5, 0, 0)] [] (by decide +kernel) rfl trivial ?_
        refine go_ifz (cnd := .eq) (off := 40) 146 (by decide +kernel) (by decide) (fun _ => ?_) (fun (h : ¬ (0 : Int32) = 0) => absurd h (by decide))
        refine go_blk (pc2 := 149) (L2 := [.ref 27, .int (nI s), .int pt, .int (nI k), .int ((nI m) + 1), .int 0, .int 1]) (st2 := []) (M2 := (A, G, PF)) (hs2 := []) (C := True) [(.iinc 4 1, 0, 0)] [] (by decide +kernel) rfl trivial ?_
        refine go_goto (off := -139) 10 (by decide +kernel) (by decide) ?_
        exact go_as (ih (by omega) (fun m2 h2 => by by_cases e : m2 = m; (subst e; unfold BadM; simp_all); exact hinv m2 (by omega)) (.int 0) (.int 1)) rfl (by simp only [nI_1]) rfl
      · rw [bi_f hb4]
        show Go l ro0 mX6_factsFit 39 (A, G, PF) 102 [.ref 27, .int (nI s), .int pt, .int (nI k), .int (nI m), .int 0, j2] [.int 0] 39 _
        refine go_blk (pc2 := 106) (L2 := [.ref 27, .int (nI s), .int pt, .int (nI k), .int (nI m), .int 0, .int 0]) (st2 := [.int 0]) (M2 := (A, G, PF)) (hs2 := []) (C := True) [(.istore 6, 0, 0), (.iload 5, 0, 0)] [] (by decide +kernel) rfl trivial ?_
        refine go_ifz (cnd := .eq) (off := 40) 146 (by decide +kernel) (by decide) (fun _ => ?_) (fun (h : ¬ (0 : Int32) = 0) => absurd h (by decide))
        refine go_blk (pc2 := 149) (L2 := [.ref 27, .int (nI s), .int pt, .int (nI k), .int ((nI m) + 1), .int 0, .int 0]) (st2 := []) (M2 := (A, G, PF)) (hs2 := []) (C := True) [(.iinc 4 1, 0, 0)] [] (by decide +kernel) rfl trivial ?_
        refine go_goto (off := -139) 10 (by decide +kernel) (by decide) ?_
        exact go_as (ih (by omega) (fun m2 h2 => by by_cases e : m2 = m; (subst e; unfold BadM; simp_all); exact hinv m2 (by omega)) (.int 0) (.int 0)) rfl (by simp only [nI_1]) rfl
    · skip
      refine go_blk (pc2 := 34) (L2 := [.ref 27, .int (nI s), .int pt, .int (nI k), .int (nI m), j1, j2]) (st2 := [.int 3, .int (A 28 m)]) (M2 := (A, G, PF)) (hs2 := []) (C := ((nI m) = nI m ∧ m < 5) ∧ True) [(.aload_n 0, 0, 0), (.getfield 7, 6, 0), (.iload 4, 0, 0), (.iaload, 0, 0), (.iconst 3, 0, 0)] [m] (by decide +kernel) rfl ⟨⟨rfl, by omega⟩, trivial⟩ ?_
      refine go_cmp (cnd := .ne) (off := 40) 74 (by decide +kernel) (by decide) (fun (c5 : ¬ (A 28 m) = 3) => ?_) (fun (c5 : (A 28 m) = 3) => ?_)
      · skip
        refine go_blk (pc2 := 99) (L2 := [.ref 27, .int (nI s), .int pt, .int (nI k), .int (nI m), .int 0, j2]) (st2 := [.int pt, .int (A 29 ((4 * m) + 1)), .int (A 29 ((4 * k) + 1))]) (M2 := (A, G, PF)) (hs2 := []) (C := (((4 * (nI k)) + 1) = nI ((4 * k) + 1) ∧ ((4 * k) + 1) < 20) ∧ (((4 * (nI m)) + 1) = nI ((4 * m) + 1) ∧ ((4 * m) + 1) < 20) ∧ True) [(.iconst 0, 0, 0), (.istore 5, 0, 0), (.aload_n 0, 0, 0), (.getfield 13, 6, 1), (.iconst 4, 0, 0), (.iload_n 3, 0, 0), (.imul, 0, 0), (.iconst 1, 0, 0), (.iadd, 0, 0), (.iaload, 0, 0), (.aload_n 0, 0, 0), (.getfield 13, 6, 1), (.iconst 4, 0, 0), (.iload 4, 0, 0), (.imul, 0, 0), (.iconst 1, 0, 0), (.iadd, 0, 0), (.iaload, 0, 0), (.iload_n 2, 0, 0)] [((4 * k) + 1), ((4 * m) + 1)] (by decide +kernel) rfl ⟨⟨(by first | rfl | (simp only [nI, Int32.ofNat_add, Int32.ofNat_mul]; done) | (simp only [nI, Int32.ofNat_add, Int32.ofNat_mul]; rfl)), by omega⟩, ⟨(by first | rfl | (simp only [nI, Int32.ofNat_add, Int32.ofNat_mul]; done) | (simp only [nI, Int32.ofNat_add, Int32.ofNat_mul]; rfl)), by omega⟩, trivial⟩ ?_
        refine go_call (Y2 := mX6_same) (n2 := 39) (st := []) [] [.int (A 29 ((4 * k) + 1)), .int (A 29 ((4 * m) + 1)), .int pt] ck_6_127 cwX6_same rfl (by decide +kernel) rfl (fun _ => rfl) (fun h => absurd rfl h) (Nat.le_of_ble_eq_true rfl) (Or.inl rfl) (fun _ _ _ h => h) (s_X6_same l A G (A 29 ((4 * k) + 1)) (A 29 ((4 * m) + 1)) pt) (fun v M2 hp6 => ?_)
        obtain ⟨rfl, rfl⟩ := hp6
        rcases Classical.em (SameM (A 29 ((4 * k) + 1)) (A 29 ((4 * m) + 1)) pt) with hb7 | hb7
        · rw [bi_t hb7]
          show Go l ro0 mX6_factsFit 39 (A, G, PF) 102 [.ref 27, .int (nI s), .int pt, .int (nI k), .int (nI m), .int 0, j2] [.int 1] 39 _
          refine go_blk (pc2 := 106) (L2 := [.ref 27, .int (nI s), .int pt, .int (nI k), .int (nI m), .int 0, .int 1]) (st2 := [.int 0]) (M2 := (A, G, PF)) (hs2 := []) (C := True) [(.istore 6, 0, 0), (.iload 5, 0, 0)] [] (by decide +kernel) rfl trivial ?_
          refine go_ifz (cnd := .eq) (off := 40) 146 (by decide +kernel) (by decide) (fun _ => ?_) (fun (h : ¬ (0 : Int32) = 0) => absurd h (by decide))
          refine go_blk (pc2 := 149) (L2 := [.ref 27, .int (nI s), .int pt, .int (nI k), .int ((nI m) + 1), .int 0, .int 1]) (st2 := []) (M2 := (A, G, PF)) (hs2 := []) (C := True) [(.iinc 4 1, 0, 0)] [] (by decide +kernel) rfl trivial ?_
          refine go_goto (off := -139) 10 (by decide +kernel) (by decide) ?_
          exact go_as (ih (by omega) (fun m2 h2 => by by_cases e : m2 = m; (subst e; unfold BadM; simp_all); exact hinv m2 (by omega)) (.int 0) (.int 1)) rfl (by simp only [nI_1]) rfl
        · rw [bi_f hb7]
          show Go l ro0 mX6_factsFit 39 (A, G, PF) 102 [.ref 27, .int (nI s), .int pt, .int (nI k), .int (nI m), .int 0, j2] [.int 0] 39 _
          refine go_blk (pc2 := 106) (L2 := [.ref 27, .int (nI s), .int pt, .int (nI k), .int (nI m), .int 0, .int 0]) (st2 := [.int 0]) (M2 := (A, G, PF)) (hs2 := []) (C := True) [(.istore 6, 0, 0), (.iload 5, 0, 0)] [] (by decide +kernel) rfl trivial ?_
          refine go_ifz (cnd := .eq) (off := 40) 146 (by decide +kernel) (by decide) (fun _ => ?_) (fun (h : ¬ (0 : Int32) = 0) => absurd h (by decide))
          refine go_blk (pc2 := 149) (L2 := [.ref 27, .int (nI s), .int pt, .int (nI k), .int ((nI m) + 1), .int 0, .int 0]) (st2 := []) (M2 := (A, G, PF)) (hs2 := []) (C := True) [(.iinc 4 1, 0, 0)] [] (by decide +kernel) rfl trivial ?_
          refine go_goto (off := -139) 10 (by decide +kernel) (by decide) ?_
          exact go_as (ih (by omega) (fun m2 h2 => by by_cases e : m2 = m; (subst e; unfold BadM; simp_all); exact hinv m2 (by omega)) (.int 0) (.int 0)) rfl (by simp only [nI_1]) rfl
      · skip
        refine go_blk (pc2 := 43) (L2 := [.ref 27, .int (nI s), .int pt, .int (nI k), .int (nI m), j1, j2]) (st2 := [.int 1, .int (((nI s) >>> ((nI k) &&& 31)) &&& 1)]) (M2 := (A, G, PF)) (hs2 := []) (C := True) [(.iload_n 1, 0, 0), (.iload_n 3, 0, 0), (.ishr, 0, 0), (.iconst 1, 0, 0), (.iand, 0, 0), (.iconst 1, 0, 0)] [] (by decide +kernel) rfl trivial ?_
        refine go_cmp (cnd := .ne) (off := 31) 74 (by decide +kernel) (by decide) (fun (c8 : ¬ (((nI s) >>> ((nI k) &&& 31)) &&& 1) = 1) => ?_) (fun (c8 : (((nI s) >>> ((nI k) &&& 31)) &&& 1) = 1) => ?_)
        · skip
          rw [bitS1 hs (by omega)] at c8
          refine go_blk (pc2 := 99) (L2 := [.ref 27, .int (nI s), .int pt, .int (nI k), .int (nI m), .int 0, j2]) (st2 := [.int pt, .int (A 29 ((4 * m) + 1)), .int (A 29 ((4 * k) + 1))]) (M2 := (A, G, PF)) (hs2 := []) (C := (((4 * (nI k)) + 1) = nI ((4 * k) + 1) ∧ ((4 * k) + 1) < 20) ∧ (((4 * (nI m)) + 1) = nI ((4 * m) + 1) ∧ ((4 * m) + 1) < 20) ∧ True) [(.iconst 0, 0, 0), (.istore 5, 0, 0), (.aload_n 0, 0, 0), (.getfield 13, 6, 1), (.iconst 4, 0, 0), (.iload_n 3, 0, 0), (.imul, 0, 0), (.iconst 1, 0, 0), (.iadd, 0, 0), (.iaload, 0, 0), (.aload_n 0, 0, 0), (.getfield 13, 6, 1), (.iconst 4, 0, 0), (.iload 4, 0, 0), (.imul, 0, 0), (.iconst 1, 0, 0), (.iadd, 0, 0), (.iaload, 0, 0), (.iload_n 2, 0, 0)] [((4 * k) + 1), ((4 * m) + 1)] (by decide +kernel) rfl ⟨⟨(by first | rfl | (simp only [nI, Int32.ofNat_add, Int32.ofNat_mul]; done) | (simp only [nI, Int32.ofNat_add, Int32.ofNat_mul]; rfl)), by omega⟩, ⟨(by first | rfl | (simp only [nI, Int32.ofNat_add, Int32.ofNat_mul]; done) | (simp only [nI, Int32.ofNat_add, Int32.ofNat_mul]; rfl)), by omega⟩, trivial⟩ ?_
          refine go_call (Y2 := mX6_same) (n2 := 39) (st := []) [] [.int (A 29 ((4 * k) + 1)), .int (A 29 ((4 * m) + 1)), .int pt] ck_6_127 cwX6_same rfl (by decide +kernel) rfl (fun _ => rfl) (fun h => absurd rfl h) (Nat.le_of_ble_eq_true rfl) (Or.inl rfl) (fun _ _ _ h => h) (s_X6_same l A G (A 29 ((4 * k) + 1)) (A 29 ((4 * m) + 1)) pt) (fun v M2 hp9 => ?_)
          obtain ⟨rfl, rfl⟩ := hp9
          rcases Classical.em (SameM (A 29 ((4 * k) + 1)) (A 29 ((4 * m) + 1)) pt) with hb10 | hb10
          · rw [bi_t hb10]
            show Go l ro0 mX6_factsFit 39 (A, G, PF) 102 [.ref 27, .int (nI s), .int pt, .int (nI k), .int (nI m), .int 0, j2] [.int 1] 39 _
            refine go_blk (pc2 := 106) (L2 := [.ref 27, .int (nI s), .int pt, .int (nI k), .int (nI m), .int 0, .int 1]) (st2 := [.int 0]) (M2 := (A, G, PF)) (hs2 := []) (C := True) [(.istore 6, 0, 0), (.iload 5, 0, 0)] [] (by decide +kernel) rfl trivial ?_
            refine go_ifz (cnd := .eq) (off := 40) 146 (by decide +kernel) (by decide) (fun _ => ?_) (fun (h : ¬ (0 : Int32) = 0) => absurd h (by decide))
            refine go_blk (pc2 := 149) (L2 := [.ref 27, .int (nI s), .int pt, .int (nI k), .int ((nI m) + 1), .int 0, .int 1]) (st2 := []) (M2 := (A, G, PF)) (hs2 := []) (C := True) [(.iinc 4 1, 0, 0)] [] (by decide +kernel) rfl trivial ?_
            refine go_goto (off := -139) 10 (by decide +kernel) (by decide) ?_
            exact go_as (ih (by omega) (fun m2 h2 => by by_cases e : m2 = m; (subst e; unfold BadM; simp_all); exact hinv m2 (by omega)) (.int 0) (.int 1)) rfl (by simp only [nI_1]) rfl
          · rw [bi_f hb10]
            show Go l ro0 mX6_factsFit 39 (A, G, PF) 102 [.ref 27, .int (nI s), .int pt, .int (nI k), .int (nI m), .int 0, j2] [.int 0] 39 _
            refine go_blk (pc2 := 106) (L2 := [.ref 27, .int (nI s), .int pt, .int (nI k), .int (nI m), .int 0, .int 0]) (st2 := [.int 0]) (M2 := (A, G, PF)) (hs2 := []) (C := True) [(.istore 6, 0, 0), (.iload 5, 0, 0)] [] (by decide +kernel) rfl trivial ?_
            refine go_ifz (cnd := .eq) (off := 40) 146 (by decide +kernel) (by decide) (fun _ => ?_) (fun (h : ¬ (0 : Int32) = 0) => absurd h (by decide))
            refine go_blk (pc2 := 149) (L2 := [.ref 27, .int (nI s), .int pt, .int (nI k), .int ((nI m) + 1), .int 0, .int 0]) (st2 := []) (M2 := (A, G, PF)) (hs2 := []) (C := True) [(.iinc 4 1, 0, 0)] [] (by decide +kernel) rfl trivial ?_
            refine go_goto (off := -139) 10 (by decide +kernel) (by decide) ?_
            exact go_as (ih (by omega) (fun m2 h2 => by by_cases e : m2 = m; (subst e; unfold BadM; simp_all); exact hinv m2 (by omega)) (.int 0) (.int 0)) rfl (by simp only [nI_1]) rfl
        · skip
          rw [bitS1 hs (by omega)] at c8
          refine go_blk (pc2 := 64) (L2 := [.ref 27, .int (nI s), .int pt, .int (nI k), .int (nI m), j1, j2]) (st2 := [.int pt, .int (A 29 (4 * m)), .int (A 29 (4 * k))]) (M2 := (A, G, PF)) (hs2 := []) (C := ((4 * (nI k)) = nI (4 * k) ∧ (4 * k) < 20) ∧ ((4 * (nI m)) = nI (4 * m) ∧ (4 * m) < 20) ∧ True) [(.aload_n 0, 0, 0), (.getfield 13, 6, 1), (.iconst 4, 0, 0), (.iload_n 3, 0, 0), (.imul, 0, 0), (.iaload, 0, 0), (.aload_n 0, 0, 0), (.getfield 13, 6, 1), (.iconst 4, 0, 0), (.iload 4, 0, 0), (.imul, 0, 0), (.iaload, 0, 0), (.iload_n 2, 0, 0)] [(4 * k), (4 * m)] (by decide +kernel) rfl ⟨⟨(by first | rfl | (simp only [nI, Int32.ofNat_add, Int32.ofNat_mul]; done) | (simp only [nI, Int32.ofNat_add, Int32.ofNat_mul]; rfl)), by omega⟩, ⟨(by first | rfl | (simp only [nI, Int32.ofNat_add, Int32.ofNat_mul]; done) | (simp only [nI, Int32.ofNat_add, Int32.ofNat_mul]; rfl)), by omega⟩, trivial⟩ ?_
          refine go_call (Y2 := mX6_same) (n2 := 39) (st := []) [] [.int (A 29 (4 * k)), .int (A 29 (4 * m)), .int pt] ck_6_127 cwX6_same rfl (by decide +kernel) rfl (fun _ => rfl) (fun h => absurd rfl h) (Nat.le_of_ble_eq_true rfl) (Or.inl rfl) (fun _ _ _ h => h) (s_X6_same l A G (A 29 (4 * k)) (A 29 (4 * m)) pt) (fun v M2 hp11 => ?_)
          obtain ⟨rfl, rfl⟩ := hp11
          rcases Classical.em (SameM (A 29 (4 * k)) (A 29 (4 * m)) pt) with hb12 | hb12
          · rw [bi_t hb12]
            show Go l ro0 mX6_factsFit 39 (A, G, PF) 67 [.ref 27, .int (nI s), .int pt, .int (nI k), .int (nI m), j1, j2] [.int 1] 39 _
            refine go_ifz (cnd := .eq) (off := 7) 74 (by decide +kernel) (by decide) (fun (h : (1 : Int32) = 0) => absurd h (by decide)) (fun _ => ?_)
            refine go_blk (pc2 := 71) (L2 := [.ref 27, .int (nI s), .int pt, .int (nI k), .int (nI m), j1, j2]) (st2 := [.int 1]) (M2 := (A, G, PF)) (hs2 := []) (C := True) [(.iconst 1, 0, 0)] [] (by decide +kernel) rfl trivial ?_
            refine go_goto (off := 4) 75 (by decide +kernel) (by decide) ?_
            refine go_blk (pc2 := 99) (L2 := [.ref 27, .int (nI s), .int pt, .int (nI k), .int (nI m), .int 1, j2]) (st2 := [.int pt, .int (A 29 ((4 * m) + 1)), .int (A 29 ((4 * k) + 1))]) (M2 := (A, G, PF)) (hs2 := []) (C := (((4 * (nI k)) + 1) = nI ((4 * k) + 1) ∧ ((4 * k) + 1) < 20) ∧ (((4 * (nI m)) + 1) = nI ((4 * m) + 1) ∧ ((4 * m) + 1) < 20) ∧ True) [(.istore 5, 0, 0), (.aload_n 0, 0, 0), (.getfield 13, 6, 1), (.iconst 4, 0, 0), (.iload_n 3, 0, 0), (.imul, 0, 0), (.iconst 1, 0, 0), (.iadd, 0, 0), (.iaload, 0, 0), (.aload_n 0, 0, 0), (.getfield 13, 6, 1), (.iconst 4, 0, 0), (.iload 4, 0, 0), (.imul, 0, 0), (.iconst 1, 0, 0), (.iadd, 0, 0), (.iaload, 0, 0), (.iload_n 2, 0, 0)] [((4 * k) + 1), ((4 * m) + 1)] (by decide +kernel) rfl ⟨⟨(by first | rfl | (simp only [nI, Int32.ofNat_add, Int32.ofNat_mul]; done) | (simp only [nI, Int32.ofNat_add, Int32.ofNat_mul]; rfl)), by omega⟩, ⟨(by first | rfl | (simp only [nI, Int32.ofNat_add, Int32.ofNat_mul]; done) | (simp only [nI, Int32.ofNat_add, Int32.ofNat_mul]; rfl)), by omega⟩, trivial⟩ ?_
            refine go_call (Y2 := mX6_same) (n2 := 39) (st := []) [] [.int (A 29 ((4 * k) + 1)), .int (A 29 ((4 * m) + 1)), .int pt] ck_6_127 cwX6_same rfl (by decide +kernel) rfl (fun _ => rfl) (fun h => absurd rfl h) (Nat.le_of_ble_eq_true rfl) (Or.inl rfl) (fun _ _ _ h => h) (s_X6_same l A G (A 29 ((4 * k) + 1)) (A 29 ((4 * m) + 1)) pt) (fun v M2 hp13 => ?_)
            obtain ⟨rfl, rfl⟩ := hp13
            rcases Classical.em (SameM (A 29 ((4 * k) + 1)) (A 29 ((4 * m) + 1)) pt) with hb14 | hb14
            · rw [bi_t hb14]
              show Go l ro0 mX6_factsFit 39 (A, G, PF) 102 [.ref 27, .int (nI s), .int pt, .int (nI k), .int (nI m), .int 1, j2] [.int 1] 39 _
              refine go_blk (pc2 := 106) (L2 := [.ref 27, .int (nI s), .int pt, .int (nI k), .int (nI m), .int 1, .int 1]) (st2 := [.int 1]) (M2 := (A, G, PF)) (hs2 := []) (C := True) [(.istore 6, 0, 0), (.iload 5, 0, 0)] [] (by decide +kernel) rfl trivial ?_
              refine go_ifz (cnd := .eq) (off := 40) 146 (by decide +kernel) (by decide) (fun (h : (1 : Int32) = 0) => absurd h (by decide)) (fun _ => ?_)
              refine go_blk (pc2 := 118) (L2 := [.ref 27, .int (nI s), .int pt, .int (nI k), .int (nI m), .int 1, .int 1]) (st2 := [.int 1, .int (((nI s) >>> ((nI m) &&& 31)) &&& 1), .int 1]) (M2 := (A, G, PF)) (hs2 := []) (C := True) [(.iload 6, 0, 0), (.iload_n 1, 0, 0), (.iload 4, 0, 0), (.ishr, 0, 0), (.iconst 1, 0, 0), (.iand, 0, 0), (.iconst 1, 0, 0)] [] (by decide +kernel) rfl trivial ?_
              refine go_cmp (cnd := .ne) (off := 7) 125 (by decide +kernel) (by decide) (fun (c15 : ¬ (((nI s) >>> ((nI m) &&& 31)) &&& 1) = 1) => ?_) (fun (c15 : (((nI s) >>> ((nI m) &&& 31)) &&& 1) = 1) => ?_)
              · skip
                rw [bitS1 hs (by omega)] at c15
                refine go_blk (pc2 := 126) (L2 := [.ref 27, .int (nI s), .int pt, .int (nI k), .int (nI m), .int 1, .int 1]) (st2 := [.int 0, .int 1]) (M2 := (A, G, PF)) (hs2 := []) (C := True) [(.iconst 0, 0, 0)] [] (by decide +kernel) rfl trivial ?_
                refine go_cmp (cnd := .eq) (off := 20) 146 (by decide +kernel) (by decide) (fun (h : (1 : Int32) = 0) => absurd h (by decide)) (fun _ => ?_)
                refine go_blk (pc2 := 136) (L2 := [.ref 27, .int (nI s), .int pt, .int (nI k), .int (nI m), .int 1, .int 1]) (st2 := [.int 1, .int (((nI s) >>> ((nI m) &&& 31)) &&& 1)]) (M2 := (A, G, PF)) (hs2 := []) (C := True) [(.iload_n 1, 0, 0), (.iload 4, 0, 0), (.ishr, 0, 0), (.iconst 1, 0, 0), (.iand, 0, 0), (.iconst 1, 0, 0)] [] (by decide +kernel) rfl trivial ?_
                refine go_cmp (cnd := .eq) (off := 8) 144 (by decide +kernel) (by decide) (fun (c16 : (((nI s) >>> ((nI m) &&& 31)) &&& 1) = 1) => ?_) (fun (c16 : ¬ (((nI s) >>> ((nI m) &&& 31)) &&& 1) = 1) => ?_)
                · skip
                  rw [bitS1 hs (by omega)] at c16
                  refine go_blk (pc2 := 145) (L2 := [.ref 27, .int (nI s), .int pt, .int (nI k), .int (nI m), .int 1, .int 1]) (st2 := [.int 0]) (M2 := (A, G, PF)) (hs2 := []) (C := True) [(.iconst 0, 0, 0)] [] (by decide +kernel) rfl trivial ?_
                  exact go_retz (by decide +kernel) rfl (Or.inl rfl) (pv0 (fun zz => absurd (zz k hk5 m (by omega)) (by unfold BadM; simp_all)))
                · skip
                  rw [bitS1 hs (by omega)] at c16
                  refine go_blk (pc2 := 141) (L2 := [.ref 27, .int (nI s), .int pt, .int (nI k), .int (nI m), .int 1, .int 1]) (st2 := [.int 1]) (M2 := (A, G, PF)) (hs2 := []) (C := True) [(.iload 6, 0, 0)] [] (by decide +kernel) rfl trivial ?_
                  refine go_ifz (cnd := .eq) (off := 5) 146 (by decide +kernel) (by decide) (fun (h : (1 : Int32) = 0) => absurd h (by decide)) (fun _ => ?_)
                  refine go_blk (pc2 := 145) (L2 := [.ref 27, .int (nI s), .int pt, .int (nI k), .int (nI m), .int 1, .int 1]) (st2 := [.int 0]) (M2 := (A, G, PF)) (hs2 := []) (C := True) [(.iconst 0, 0, 0)] [] (by decide +kernel) rfl trivial ?_
                  exact go_retz (by decide +kernel) rfl (Or.inl rfl) (pv0 (fun zz => absurd (zz k hk5 m (by omega)) (by unfold BadM; simp_all)))
              · skip
                rw [bitS1 hs (by omega)] at c15
                refine go_blk (pc2 := 122) (L2 := [.ref 27, .int (nI s), .int pt, .int (nI k), .int (nI m), .int 1, .int 1]) (st2 := [.int 1, .int 1]) (M2 := (A, G, PF)) (hs2 := []) (C := True) [(.iconst 1, 0, 0)] [] (by decide +kernel) rfl trivial ?_
                refine go_goto (off := 4) 126 (by decide +kernel) (by decide) ?_
                refine go_cmp (cnd := .eq) (off := 20) 146 (by decide +kernel) (by decide) (fun _ => ?_) (fun (h : ¬ (1 : Int32) = 1) => absurd h (by decide))
                refine go_blk (pc2 := 149) (L2 := [.ref 27, .int (nI s), .int pt, .int (nI k), .int ((nI m) + 1), .int 1, .int 1]) (st2 := []) (M2 := (A, G, PF)) (hs2 := []) (C := True) [(.iinc 4 1, 0, 0)] [] (by decide +kernel) rfl trivial ?_
                refine go_goto (off := -139) 10 (by decide +kernel) (by decide) ?_
                exact go_as (ih (by omega) (fun m2 h2 => by by_cases e : m2 = m; (subst e; unfold BadM; simp_all); exact hinv m2 (by omega)) (.int 1) (.int 1)) rfl (by simp only [nI_1]) rfl
            · rw [bi_f hb14]
              show Go l ro0 mX6_factsFit 39 (A, G, PF) 102 [.ref 27, .int (nI s), .int pt, .int (nI k), .int (nI m), .int 1, j2] [.int 0] 39 _
              refine go_blk (pc2 := 106) (L2 := [.ref 27, .int (nI s), .int pt, .int (nI k), .int (nI m), .int 1, .int 0]) (st2 := [.int 1]) (M2 := (A, G, PF)) (hs2 := []) (C := True) [(.istore 6, 0, 0), (.iload 5, 0, 0)] [] (by decide +kernel) rfl trivial ?_
              refine go_ifz (cnd := .eq) (off := 40) 146 (by decide +kernel) (by decide) (fun (h : (1 : Int32) = 0) => absurd h (by decide)) (fun _ => ?_)
              refine go_blk (pc2 := 118) (L2 := [.ref 27, .int (nI s), .int pt, .int (nI k), .int (nI m), .int 1, .int 0]) (st2 := [.int 1, .int (((nI s) >>> ((nI m) &&& 31)) &&& 1), .int 0]) (M2 := (A, G, PF)) (hs2 := []) (C := True) [(.iload 6, 0, 0), (.iload_n 1, 0, 0), (.iload 4, 0, 0), (.ishr, 0, 0), (.iconst 1, 0, 0), (.iand, 0, 0), (.iconst 1, 0, 0)] [] (by decide +kernel) rfl trivial ?_
              refine go_cmp (cnd := .ne) (off := 7) 125 (by decide +kernel) (by decide) (fun (c17 : ¬ (((nI s) >>> ((nI m) &&& 31)) &&& 1) = 1) => ?_) (fun (c17 : (((nI s) >>> ((nI m) &&& 31)) &&& 1) = 1) => ?_)
              · skip
                rw [bitS1 hs (by omega)] at c17
                refine go_blk (pc2 := 126) (L2 := [.ref 27, .int (nI s), .int pt, .int (nI k), .int (nI m), .int 1, .int 0]) (st2 := [.int 0, .int 0]) (M2 := (A, G, PF)) (hs2 := []) (C := True) [(.iconst 0, 0, 0)] [] (by decide +kernel) rfl trivial ?_
                refine go_cmp (cnd := .eq) (off := 20) 146 (by decide +kernel) (by decide) (fun _ => ?_) (fun (h : ¬ (0 : Int32) = 0) => absurd h (by decide))
                refine go_blk (pc2 := 149) (L2 := [.ref 27, .int (nI s), .int pt, .int (nI k), .int ((nI m) + 1), .int 1, .int 0]) (st2 := []) (M2 := (A, G, PF)) (hs2 := []) (C := True) [(.iinc 4 1, 0, 0)] [] (by decide +kernel) rfl trivial ?_
                refine go_goto (off := -139) 10 (by decide +kernel) (by decide) ?_
                exact go_as (ih (by omega) (fun m2 h2 => by by_cases e : m2 = m; (subst e; unfold BadM; simp_all); exact hinv m2 (by omega)) (.int 1) (.int 0)) rfl (by simp only [nI_1]) rfl
              · skip
                rw [bitS1 hs (by omega)] at c17
                refine go_blk (pc2 := 122) (L2 := [.ref 27, .int (nI s), .int pt, .int (nI k), .int (nI m), .int 1, .int 0]) (st2 := [.int 1, .int 0]) (M2 := (A, G, PF)) (hs2 := []) (C := True) [(.iconst 1, 0, 0)] [] (by decide +kernel) rfl trivial ?_
                refine go_goto (off := 4) 126 (by decide +kernel) (by decide) ?_
                refine go_cmp (cnd := .eq) (off := 20) 146 (by decide +kernel) (by decide) (fun (h : (0 : Int32) = 1) => absurd h (by decide)) (fun _ => ?_)
                refine go_blk (pc2 := 136) (L2 := [.ref 27, .int (nI s), .int pt, .int (nI k), .int (nI m), .int 1, .int 0]) (st2 := [.int 1, .int (((nI s) >>> ((nI m) &&& 31)) &&& 1)]) (M2 := (A, G, PF)) (hs2 := []) (C := True) [(.iload_n 1, 0, 0), (.iload 4, 0, 0), (.ishr, 0, 0), (.iconst 1, 0, 0), (.iand, 0, 0), (.iconst 1, 0, 0)] [] (by decide +kernel) rfl trivial ?_
                refine go_cmp (cnd := .eq) (off := 8) 144 (by decide +kernel) (by decide) (fun (c18 : (((nI s) >>> ((nI m) &&& 31)) &&& 1) = 1) => ?_) (fun (c18 : ¬ (((nI s) >>> ((nI m) &&& 31)) &&& 1) = 1) => ?_)
                · skip
                  rw [bitS1 hs (by omega)] at c18
                  refine go_blk (pc2 := 145) (L2 := [.ref 27, .int (nI s), .int pt, .int (nI k), .int (nI m), .int 1, .int 0]) (st2 := [.int 0]) (M2 := (A, G, PF)) (hs2 := []) (C := True) [(.iconst 0, 0, 0)] [] (by decide +kernel) rfl trivial ?_
                  exact go_retz (by decide +kernel) rfl (Or.inl rfl) (pv0 (fun zz => absurd (zz k hk5 m (by omega)) (by unfold BadM; simp_all)))
                · skip
                  rw [bitS1 hs (by omega)] at c18
                  refine go_blk (pc2 := 141) (L2 := [.ref 27, .int (nI s), .int pt, .int (nI k), .int (nI m), .int 1, .int 0]) (st2 := [.int 0]) (M2 := (A, G, PF)) (hs2 := []) (C := True) [(.iload 6, 0, 0)] [] (by decide +kernel) rfl trivial ?_
                  refine go_ifz (cnd := .eq) (off := 5) 146 (by decide +kernel) (by decide) (fun _ => ?_) (fun (h : ¬ (0 : Int32) = 0) => absurd h (by decide))
                  refine go_blk (pc2 := 149) (L2 := [.ref 27, .int (nI s), .int pt, .int (nI k), .int ((nI m) + 1), .int 1, .int 0]) (st2 := []) (M2 := (A, G, PF)) (hs2 := []) (C := True) [(.iinc 4 1, 0, 0)] [] (by decide +kernel) rfl trivial ?_
                  refine go_goto (off := -139) 10 (by decide +kernel) (by decide) ?_
                  exact go_as (ih (by omega) (fun m2 h2 => by by_cases e : m2 = m; (subst e; unfold BadM; simp_all); exact hinv m2 (by omega)) (.int 1) (.int 0)) rfl (by simp only [nI_1]) rfl
          · rw [bi_f hb12]
            show Go l ro0 mX6_factsFit 39 (A, G, PF) 67 [.ref 27, .int (nI s), .int pt, .int (nI k), .int (nI m), j1, j2] [.int 0] 39 _
            refine go_ifz (cnd := .eq) (off := 7) 74 (by decide +kernel) (by decide) (fun _ => ?_) (fun (h : ¬ (0 : Int32) = 0) => absurd h (by decide))
            refine go_blk (pc2 := 99) (L2 := [.ref 27, .int (nI s), .int pt, .int (nI k), .int (nI m), .int 0, j2]) (st2 := [.int pt, .int (A 29 ((4 * m) + 1)), .int (A 29 ((4 * k) + 1))]) (M2 := (A, G, PF)) (hs2 := []) (C := (((4 * (nI k)) + 1) = nI ((4 * k) + 1) ∧ ((4 * k) + 1) < 20) ∧ (((4 * (nI m)) + 1) = nI ((4 * m) + 1) ∧ ((4 * m) + 1) < 20) ∧ True) [(.iconst 0, 0, 0), (.istore 5, 0, 0), (.aload_n 0, 0, 0), (.getfield 13, 6, 1), (.iconst 4, 0, 0), (.iload_n 3, 0, 0), (.imul, 0, 0), (.iconst 1, 0, 0), (.iadd, 0, 0), (.iaload, 0, 0), (.aload_n 0, 0, 0), (.getfield 13, 6, 1), (.iconst 4, 0, 0), (.iload 4, 0, 0), (.imul, 0, 0), (.iconst 1, 0, 0), (.iadd, 0, 0), (.iaload, 0, 0), (.iload_n 2, 0, 0)] [((4 * k) + 1), ((4 * m) + 1)] (by decide +kernel) rfl ⟨⟨(by first | rfl | (simp only [nI, Int32.ofNat_add, Int32.ofNat_mul]; done) | (simp only [nI, Int32.ofNat_add, Int32.ofNat_mul]; rfl)), by omega⟩, ⟨(by first | rfl | (simp only [nI, Int32.ofNat_add, Int32.ofNat_mul]; done) | (simp only [nI, Int32.ofNat_add, Int32.ofNat_mul]; rfl)), by omega⟩, trivial⟩ ?_
            refine go_call (Y2 := mX6_same) (n2 := 39) (st := []) [] [.int (A 29 ((4 * k) + 1)), .int (A 29 ((4 * m) + 1)), .int pt] ck_6_127 cwX6_same rfl (by decide +kernel) rfl (fun _ => rfl) (fun h => absurd rfl h) (Nat.le_of_ble_eq_true rfl) (Or.inl rfl) (fun _ _ _ h => h) (s_X6_same l A G (A 29 ((4 * k) + 1)) (A 29 ((4 * m) + 1)) pt) (fun v M2 hp19 => ?_)
            obtain ⟨rfl, rfl⟩ := hp19
            rcases Classical.em (SameM (A 29 ((4 * k) + 1)) (A 29 ((4 * m) + 1)) pt) with hb20 | hb20
            · rw [bi_t hb20]
              show Go l ro0 mX6_factsFit 39 (A, G, PF) 102 [.ref 27, .int (nI s), .int pt, .int (nI k), .int (nI m), .int 0, j2] [.int 1] 39 _
              refine go_blk (pc2 := 106) (L2 := [.ref 27, .int (nI s), .int pt, .int (nI k), .int (nI m), .int 0, .int 1]) (st2 := [.int 0]) (M2 := (A, G, PF)) (hs2 := []) (C := True) [(.istore 6, 0, 0), (.iload 5, 0, 0)] [] (by decide +kernel) rfl trivial ?_
              refine go_ifz (cnd := .eq) (off := 40) 146 (by decide +kernel) (by decide) (fun _ => ?_) (fun (h : ¬ (0 : Int32) = 0) => absurd h (by decide))
              refine go_blk (pc2 := 149) (L2 := [.ref 27, .int (nI s), .int pt, .int (nI k), .int ((nI m) + 1), .int 0, .int 1]) (st2 := []) (M2 := (A, G, PF)) (hs2 := []) (C := True) [(.iinc 4 1, 0, 0)] [] (by decide +kernel) rfl trivial ?_
              refine go_goto (off := -139) 10 (by decide +kernel) (by decide) ?_
              exact go_as (ih (by omega) (fun m2 h2 => by by_cases e : m2 = m; (subst e; unfold BadM; simp_all); exact hinv m2 (by omega)) (.int 0) (.int 1)) rfl (by simp only [nI_1]) rfl
            · rw [bi_f hb20]
              show Go l ro0 mX6_factsFit 39 (A, G, PF) 102 [.ref 27, .int (nI s), .int pt, .int (nI k), .int (nI m), .int 0, j2] [.int 0] 39 _
              refine go_blk (pc2 := 106) (L2 := [.ref 27, .int (nI s), .int pt, .int (nI k), .int (nI m), .int 0, .int 0]) (st2 := [.int 0]) (M2 := (A, G, PF)) (hs2 := []) (C := True) [(.istore 6, 0, 0), (.iload 5, 0, 0)] [] (by decide +kernel) rfl trivial ?_
              refine go_ifz (cnd := .eq) (off := 40) 146 (by decide +kernel) (by decide) (fun _ => ?_) (fun (h : ¬ (0 : Int32) = 0) => absurd h (by decide))
              refine go_blk (pc2 := 149) (L2 := [.ref 27, .int (nI s), .int pt, .int (nI k), .int ((nI m) + 1), .int 0, .int 0]) (st2 := []) (M2 := (A, G, PF)) (hs2 := []) (C := True) [(.iinc 4 1, 0, 0)] [] (by decide +kernel) rfl trivial ?_
              refine go_goto (off := -139) 10 (by decide +kernel) (by decide) ?_
              exact go_as (ih (by omega) (fun m2 h2 => by by_cases e : m2 = m; (subst e; unfold BadM; simp_all); exact hinv m2 (by omega)) (.int 0) (.int 0)) rfl (by simp only [nI_1]) rfl
set_option maxRecDepth 100000 in
set_option maxHeartbeats 4000000 in
theorem lo_X6_factsFit (l : Launch) (A : Nat → Nat → Int32) (G : Nat → Nat → Int64) (s : Nat) (hs : s < 32) (pt : Int32) : ∀ k, k ≤ 5 → (∀ k2, k2 < k → ∀ m, m < 5 → ¬ BadM A s pt k2 m) → ∀ (j0 : Value) (j1 : Value) (j2 : Value), Go l ro0 mX6_factsFit 39 (A, G, PF) 2 [.ref 27, .int (nI s), .int pt, .int (nI k), j0, j1, j2] [] 39 (pv (bi (FacM A s pt)) (A, G, PF)) := by
  refine down 5 (fun k hk ih hinv j0 j1 j2 => ?_)
  refine go_blk (pc2 := 4) (L2 := [.ref 27, .int (nI s), .int pt, .int (nI k), j0, j1, j2]) (st2 := [.int 5, .int (nI k)]) (M2 := (A, G, PF)) (hs2 := []) (C := True) [(.iload_n 3, 0, 0), (.iconst 5, 0, 0)] [] (by decide +kernel) rfl trivial ?_
  refine go_cmp (cnd := .ge) (off := 154) 158 (by decide +kernel) (by decide) (fun (c1 : 5 ≤ (nI k)) => ?_) (fun (c1 : ¬ 5 ≤ (nI k)) => ?_)
  · skip
    replace c1 : 5 ≤ k := (nx_le (a := 5) (b := k) rfl rfl (by omega) (by omega)).mp c1
    refine go_blk (pc2 := 159) (L2 := [.ref 27, .int (nI s), .int pt, .int (nI k), j0, j1, j2]) (st2 := [.int 1]) (M2 := (A, G, PF)) (hs2 := []) (C := True) [(.iconst 1, 0, 0)] [] (by decide +kernel) rfl trivial ?_
    exact go_retz (by decide +kernel) rfl (Or.inr rfl) (pv1 (fun k2 h2 => hinv k2 (by omega)))
  · skip
    replace c1 : ¬ 5 ≤ k := fun zz => c1 ((nx_le (a := 5) (b := k) rfl rfl (by omega) (by omega)).mpr zz)
    refine go_blk (pc2 := 10) (L2 := [.ref 27, .int (nI s), .int pt, .int (nI k), .int 0, j1, j2]) (st2 := []) (M2 := (A, G, PF)) (hs2 := []) (C := True) [(.iconst 0, 0, 0), (.istore 4, 0, 0)] [] (by decide +kernel) rfl trivial ?_
    exact li_X6_factsFit l A G s hs pt k (by omega) (fun h j3 j4 j5 => ih (by omega) (fun k2 h2 => by by_cases e : k2 = k; (subst e; exact h); exact hinv k2 (by omega)) j3 j4 j5) 0 (by omega) (fun m2 h2 => absurd h2 (by omega)) _ _
set_option maxRecDepth 100000 in
set_option maxHeartbeats 4000000 in
theorem s_X6_factsFit (l : Launch) (A : Nat → Nat → Int32) (G : Nat → Nat → Int64) (s : Nat) (hs : s < 32) (pt : Int32) : Sem l mX6_factsFit [.ref 27, .int (nI s), .int pt] 39 (A, G, PF) 39 (pv (bi (FacM A s pt)) (A, G, PF)) := by
  refine sem_of_go (by decide) rfl (by decide) (by decide) rfl (Nat.le_of_ble_eq_true rfl) ?_
  show Go l ro0 mX6_factsFit 39 (A, G, PF) 0 [.ref 27, .int (nI s), .int pt, .null, .null, .null, .null] [] 39 (pv (bi (FacM A s pt)) (A, G, PF))
  refine go_blk (pc2 := 2) (L2 := [.ref 27, .int (nI s), .int pt, .int 0, .null, .null, .null]) (st2 := []) (M2 := (A, G, PF)) (hs2 := []) (C := True) [(.iconst 0, 0, 0), (.istore_n 3, 0, 0)] [] (by decide +kernel) rfl trivial ?_
  exact lo_X6_factsFit l A G s hs pt 0 (by omega) (fun k2 h2 => absurd h2 (by omega)) _ _ _
def litM (A : Nat → Nat → Int32) (i : Nat) : Nat := (A 30 i).toNatClampNeg
def LitOkM (A : Nat → Nat → Int32) : Prop := ∀ i, i < 24 → A 30 i = -1 ∨ (litM A i < 10 ∧ A 30 i = nI (litM A i))
def LitHM (A : Nat → Nat → Int32) (s i : Nat) : Prop := ¬ A 30 i = -1 ∧ HL s (litM A i)
def ClSM (A : Nat → Nat → Int32) (s st k : Nat) : Prop := ∃ i, st ≤ i ∧ i < k ∧ LitHM A s i
def SatM (A : Nat → Nat → Int32) (s ncl : Nat) : Prop := ∀ n, n < ncl → ClSM A s (3 * n) (3 * n + 3)
theorem HLm_iff {s m : Nat} {x : Int32} (hs : s < 32) (hm : m < 10) (hx : x = nI m) : HL s m ↔ ((nI s >>> ((x / 2) &&& 31)) &&& 1) = 1 - (x - x / 2 * 2) := by
  subst hx
  have h1 : ∀ m, m < 10 → (1 - (nI m - nI m / 2 * 2)) = if m % 2 = 0 then 1 else 0 := by decide +kernel
  rw [div2 m hm, ← div2 m hm, h1 m hm, div2 m hm, bitS s hs (m / 2) (by omega)]
  unfold HL
  split <;> split <;> simp_all
theorem neg_iff {A : Nat → Nat → Int32} {i : Nat} (h : A 30 i = -1 ∨ (litM A i < 10 ∧ A 30 i = nI (litM A i))) : A 30 i < 0 ↔ A 30 i = -1 := by
  rcases h with h | ⟨h1, h2⟩
  · rw [h]; decide
  · constructor
    · intro q
      rw [h2] at q
      exact absurd q (nI_pos (by omega))
    · intro q
      rw [q]; decide
theorem ClSM_s {A : Nat → Nat → Int32} {s st k : Nat} (hk : st ≤ k) : ClSM A s st (k + 1) ↔ (ClSM A s st k ∨ LitHM A s k) := by
  constructor
  · rintro ⟨i, h1, h2, h3⟩
    by_cases e : i = k
    · subst e; exact Or.inr h3
    · exact Or.inl ⟨i, h1, by omega, h3⟩
  · rintro (⟨i, h1, h2, h3⟩ | h)
    · exact ⟨i, h1, by omega, h3⟩
    · exact ⟨k, hk, by omega, h⟩
theorem bi_or1 {p : Prop} : (bi p ||| 1) = 1 := by rcases bi_01 p with h | h <;> rw [h] <;> decide
theorem bi_or0 {p : Prop} : (bi p ||| 0) = bi p := Int32.or_zero
set_option maxRecDepth 100000 in
set_option maxHeartbeats 4000000 in
theorem li_X6_satisfies (l : Launch) (A : Nat → Nat → Int32) (G : Nat → Nat → Int64) (hL : LitOkM A) (ncl : Nat) (hn : A 27 4 = nI ncl) (hn8 : ncl ≤ 8) (s : Nat) (hs : s < 32) (n : Nat) (hnn : n < ncl) (hout : ClSM A s (3 * n) (3 * n + 3) → ∀ j1 j2 : Value, Go l ro0 mX6_satisfies 39 (A, G, PF) 2 [.ref 27, .int (nI s), .int (nI (n + 1)), j1, j2] [] 39 (pv (bi (SatM A s ncl)) (A, G, PF))) : ∀ i, i ≤ 3 * n + 3 → 3 * n ≤ i → ∀ one : Int32, one = bi (ClSM A s (3 * n) i) → Go l ro0 mX6_satisfies 39 (A, G, PF) 17 [.ref 27, .int (nI s), .int (nI n), .int one, .int (nI i)] [] 39 (pv (bi (SatM A s ncl)) (A, G, PF)) := by
  refine down (3 * n + 3) (fun i hi ih hst one hone => ?_)
  refine go_blk (pc2 := 24) (L2 := [.ref 27, .int (nI s), .int (nI n), .int one, .int (nI i)]) (st2 := [.int ((3 * (nI n)) + 3), .int (nI i)]) (M2 := (A, G, PF)) (hs2 := []) (C := True) [(.iload 4, 0, 0), (.iconst 3, 0, 0), (.iload_n 2, 0, 0), (.imul, 0, 0), (.iconst 3, 0, 0), (.iadd, 0, 0)] [] (by decide +kernel) rfl trivial ?_
  refine go_cmp (cnd := .ge) (off := 54) 78 (by decide +kernel) (by decide) (fun (c1 : ((3 * (nI n)) + 3) ≤ (nI i)) => ?_) (fun (c1 : ¬ ((3 * (nI n)) + 3) ≤ (nI i)) => ?_)
  · skip
    replace c1 : ((3 * n) + 3) ≤ i := (nx_le (a := ((3 * n) + 3)) (b := i) (by first | rfl | (simp only [nI, Int32.ofNat_add, Int32.ofNat_mul]; done) | (simp only [nI, Int32.ofNat_add, Int32.ofNat_mul]; rfl)) rfl (by omega) (by omega)).mp c1
    refine go_blk (pc2 := 79) (L2 := [.ref 27, .int (nI s), .int (nI n), .int one, .int (nI i)]) (st2 := [.int one]) (M2 := (A, G, PF)) (hs2 := []) (C := True) [(.iload_n 3, 0, 0)] [] (by decide +kernel) rfl trivial ?_
    refine go_ifz (cnd := .ne) (off := 5) 84 (by decide +kernel) (by decide) (fun (c2 : ¬ one = 0) => ?_) (fun (c2 : one = 0) => ?_)
    · skip
      rw [show i = 3 * n + 3 by omega] at hone
      rw [hone] at c2
      replace c2 := bi_n.mp c2
      refine go_blk (pc2 := 87) (L2 := [.ref 27, .int (nI s), .int ((nI n) + 1), .int one, .int (nI i)]) (st2 := []) (M2 := (A, G, PF)) (hs2 := []) (C := True) [(.iinc 2 1, 0, 0)] [] (by decide +kernel) rfl trivial ?_
      refine go_goto (off := -85) 2 (by decide +kernel) (by decide) ?_
      exact go_as (hout (by assumption) (.int one) (.int (nI i))) rfl (by simp only [nI_1]) rfl
    · skip
      rw [show i = 3 * n + 3 by omega] at hone
      rw [hone] at c2
      replace c2 := bi_z.mp c2
      refine go_blk (pc2 := 83) (L2 := [.ref 27, .int (nI s), .int (nI n), .int one, .int (nI i)]) (st2 := [.int 0]) (M2 := (A, G, PF)) (hs2 := []) (C := True) [(.iconst 0, 0, 0)] [] (by decide +kernel) rfl trivial ?_
      exact go_retz (by decide +kernel) rfl (Or.inl rfl) (pv0 (fun zz => absurd (zz n (by omega)) (by assumption)))
  · skip
    replace c1 : ¬ ((3 * n) + 3) ≤ i := fun zz => c1 ((nx_le (a := ((3 * n) + 3)) (b := i) (by first | rfl | (simp only [nI, Int32.ofNat_add, Int32.ofNat_mul]; done) | (simp only [nI, Int32.ofNat_add, Int32.ofNat_mul]; rfl)) rfl (by omega) (by omega)).mpr zz)
    have hlo := hL i (by omega)
    refine go_blk (pc2 := 35) (L2 := [.ref 27, .int (nI s), .int (nI n), .int one, .int (nI i)]) (st2 := [.int (A 30 i), .int one]) (M2 := (A, G, PF)) (hs2 := []) (C := ((nI i) = nI i ∧ i < 24) ∧ True) [(.iload_n 3, 0, 0), (.aload_n 0, 0, 0), (.getfield 16, 6, 2), (.iload 4, 0, 0), (.iaload, 0, 0)] [i] (by decide +kernel) rfl ⟨⟨rfl, by omega⟩, trivial⟩ ?_
    refine go_ifz (cnd := .lt) (off := 34) 69 (by decide +kernel) (by decide) (fun (c3 : (A 30 i) < 0) => ?_) (fun (c3 : ¬ (A 30 i) < 0) => ?_)
    · skip
      rw [neg_iff hlo] at c3
      refine go_blk (pc2 := 75) (L2 := [.ref 27, .int (nI s), .int (nI n), .int (one ||| 0), .int ((nI i) + 1)]) (st2 := []) (M2 := (A, G, PF)) (hs2 := []) (C := True) [(.iconst 0, 0, 0), (.ior, 0, 0), (.istore_n 3, 0, 0), (.iinc 4 1, 0, 0)] [] (by decide +kernel) rfl trivial ?_
      refine go_goto (off := -58) 17 (by decide +kernel) (by decide) ?_
      exact go_as (ih (by omega) (by omega) ((one ||| 0)) (by rw [bi_c (ClSM_s (by omega)), hone]; first | (rw [bi_or1, bi_t (Or.inr ⟨by assumption, by assumption⟩)]) | (rw [bi_or0]; exact bi_c ⟨Or.inl, fun zz => zz.elim id (fun z2 => absurd z2.2 (by assumption))⟩) | (rw [bi_or0]; exact bi_c ⟨Or.inl, fun zz => zz.elim id (fun z2 => absurd (by assumption) z2.1)⟩))) rfl (by simp only [nI_1]) rfl
    · skip
      rw [neg_iff hlo] at c3
      refine go_blk (pc2 := 62) (L2 := [.ref 27, .int (nI s), .int (nI n), .int one, .int (nI i)]) (st2 := [.int (1 - ((A 30 i) - ((A 30 i) / 2) * 2)), .int (((nI s) >>> (((A 30 i) / 2) &&& 31)) &&& 1), .int one]) (M2 := (A, G, PF)) (hs2 := []) (C := ((nI i) = nI i ∧ i < 24) ∧ (¬ 2 = 0) ∧ ((nI i) = nI i ∧ i < 24) ∧ (¬ 2 = 0) ∧ True) [(.iload_n 1, 0, 0), (.aload_n 0, 0, 0), (.getfield 16, 6, 2), (.iload 4, 0, 0), (.iaload, 0, 0), (.iconst 2, 0, 0), (.idiv, 0, 0), (.ishr, 0, 0), (.iconst 1, 0, 0), (.iand, 0, 0), (.iconst 1, 0, 0), (.aload_n 0, 0, 0), (.getfield 16, 6, 2), (.iload 4, 0, 0), (.iaload, 0, 0), (.iconst 2, 0, 0), (.irem, 0, 0), (.isub, 0, 0)] [i, i] (by decide +kernel) rfl ⟨⟨rfl, by omega⟩, by decide, ⟨rfl, by omega⟩, by decide, trivial⟩ ?_
      refine go_cmp (cnd := .ne) (off := 7) 69 (by decide +kernel) (by decide) (fun (c4 : ¬ (((nI s) >>> (((A 30 i) / 2) &&& 31)) &&& 1) = (1 - ((A 30 i) - ((A 30 i) / 2) * 2))) => ?_) (fun (c4 : (((nI s) >>> (((A 30 i) / 2) &&& 31)) &&& 1) = (1 - ((A 30 i) - ((A 30 i) / 2) * 2))) => ?_)
      · skip
        rw [← HLm_iff hs (hlo.resolve_left (by assumption)).1 (hlo.resolve_left (by assumption)).2] at c4
        refine go_blk (pc2 := 75) (L2 := [.ref 27, .int (nI s), .int (nI n), .int (one ||| 0), .int ((nI i) + 1)]) (st2 := []) (M2 := (A, G, PF)) (hs2 := []) (C := True) [(.iconst 0, 0, 0), (.ior, 0, 0), (.istore_n 3, 0, 0), (.iinc 4 1, 0, 0)] [] (by decide +kernel) rfl trivial ?_
        refine go_goto (off := -58) 17 (by decide +kernel) (by decide) ?_
        exact go_as (ih (by omega) (by omega) ((one ||| 0)) (by rw [bi_c (ClSM_s (by omega)), hone]; first | (rw [bi_or1, bi_t (Or.inr ⟨by assumption, by assumption⟩)]) | (rw [bi_or0]; exact bi_c ⟨Or.inl, fun zz => zz.elim id (fun z2 => absurd z2.2 (by assumption))⟩) | (rw [bi_or0]; exact bi_c ⟨Or.inl, fun zz => zz.elim id (fun z2 => absurd (by assumption) z2.1)⟩))) rfl (by simp only [nI_1]) rfl
      · skip
        rw [← HLm_iff hs (hlo.resolve_left (by assumption)).1 (hlo.resolve_left (by assumption)).2] at c4
        refine go_blk (pc2 := 66) (L2 := [.ref 27, .int (nI s), .int (nI n), .int one, .int (nI i)]) (st2 := [.int 1, .int one]) (M2 := (A, G, PF)) (hs2 := []) (C := True) [(.iconst 1, 0, 0)] [] (by decide +kernel) rfl trivial ?_
        refine go_goto (off := 4) 70 (by decide +kernel) (by decide) ?_
        refine go_blk (pc2 := 75) (L2 := [.ref 27, .int (nI s), .int (nI n), .int (one ||| 1), .int ((nI i) + 1)]) (st2 := []) (M2 := (A, G, PF)) (hs2 := []) (C := True) [(.ior, 0, 0), (.istore_n 3, 0, 0), (.iinc 4 1, 0, 0)] [] (by decide +kernel) rfl trivial ?_
        refine go_goto (off := -58) 17 (by decide +kernel) (by decide) ?_
        exact go_as (ih (by omega) (by omega) ((one ||| 1)) (by rw [bi_c (ClSM_s (by omega)), hone]; first | (rw [bi_or1, bi_t (Or.inr ⟨by assumption, by assumption⟩)]) | (rw [bi_or0]; exact bi_c ⟨Or.inl, fun zz => zz.elim id (fun z2 => absurd z2.2 (by assumption))⟩) | (rw [bi_or0]; exact bi_c ⟨Or.inl, fun zz => zz.elim id (fun z2 => absurd (by assumption) z2.1)⟩))) rfl (by simp only [nI_1]) rfl
set_option maxRecDepth 100000 in
set_option maxHeartbeats 4000000 in
theorem lo_X6_satisfies (l : Launch) (A : Nat → Nat → Int32) (G : Nat → Nat → Int64) (hL : LitOkM A) (ncl : Nat) (hn : A 27 4 = nI ncl) (hn8 : ncl ≤ 8) (s : Nat) (hs : s < 32) : ∀ n, n ≤ ncl → (∀ n2, n2 < n → ClSM A s (3 * n2) (3 * n2 + 3)) → ∀ (j1 : Value) (j2 : Value), Go l ro0 mX6_satisfies 39 (A, G, PF) 2 [.ref 27, .int (nI s), .int (nI n), j1, j2] [] 39 (pv (bi (SatM A s ncl)) (A, G, PF)) := by
  refine down ncl (fun n hk ih hinv j1 j2 => ?_)
  refine go_blk (pc2 := 7) (L2 := [.ref 27, .int (nI s), .int (nI n), j1, j2]) (st2 := [.int (A 27 4), .int (nI n)]) (M2 := (A, G, PF)) (hs2 := []) (C := True) [(.iload_n 2, 0, 0), (.aload_n 0, 0, 0), (.getfield 63, 6, 4)] [] (by decide +kernel) rfl trivial ?_
  refine go_cmp (cnd := .ge) (off := 83) 90 (by decide +kernel) (by decide) (fun (c1 : (A 27 4) ≤ (nI n)) => ?_) (fun (c1 : ¬ (A 27 4) ≤ (nI n)) => ?_)
  · skip
    replace c1 : ncl ≤ n := (nx_le (a := ncl) (b := n) hn rfl (by omega) (by omega)).mp c1
    refine go_blk (pc2 := 91) (L2 := [.ref 27, .int (nI s), .int (nI n), j1, j2]) (st2 := [.int 1]) (M2 := (A, G, PF)) (hs2 := []) (C := True) [(.iconst 1, 0, 0)] [] (by decide +kernel) rfl trivial ?_
    exact go_retz (by decide +kernel) rfl (Or.inr rfl) (pv1 (fun n2 h2 => hinv n2 (by omega)))
  · skip
    replace c1 : ¬ ncl ≤ n := fun zz => c1 ((nx_le (a := ncl) (b := n) hn rfl (by omega) (by omega)).mpr zz)
    refine go_blk (pc2 := 17) (L2 := [.ref 27, .int (nI s), .int (nI n), .int 0, .int (3 * (nI n))]) (st2 := []) (M2 := (A, G, PF)) (hs2 := []) (C := True) [(.iconst 0, 0, 0), (.istore_n 3, 0, 0), (.iconst 3, 0, 0), (.iload_n 2, 0, 0), (.imul, 0, 0), (.istore 4, 0, 0)] [] (by decide +kernel) rfl trivial ?_
    exact go_as (li_X6_satisfies l A G hL ncl hn hn8 s hs n (by omega) (fun h j3 j4 => ih (by omega) (fun n2 h2 => by by_cases e : n2 = n; (subst e; exact h); exact hinv n2 (by omega)) j3 j4) (3 * n) (by omega) (by omega) 0 (bi_f (fun ⟨i, h1, h2, _⟩ => absurd h1 (by omega))).symm) rfl (by rw [show (3 : Int32) * nI n = nI (3 * n) from by simp only [nI, Int32.ofNat_mul]; rfl]) rfl
set_option maxRecDepth 100000 in
set_option maxHeartbeats 4000000 in
theorem s_X6_satisfies (l : Launch) (A : Nat → Nat → Int32) (G : Nat → Nat → Int64) (hL : LitOkM A) (ncl : Nat) (hn : A 27 4 = nI ncl) (hn8 : ncl ≤ 8) (s : Nat) (hs : s < 32) : Sem l mX6_satisfies [.ref 27, .int (nI s)] 39 (A, G, PF) 39 (pv (bi (SatM A s ncl)) (A, G, PF)) := by
  refine sem_of_go (by decide) rfl (by decide) (by decide) rfl (Nat.le_of_ble_eq_true rfl) ?_
  show Go l ro0 mX6_satisfies 39 (A, G, PF) 0 [.ref 27, .int (nI s), .null, .null, .null] [] 39 (pv (bi (SatM A s ncl)) (A, G, PF))
  refine go_blk (pc2 := 2) (L2 := [.ref 27, .int (nI s), .int 0, .null, .null]) (st2 := []) (M2 := (A, G, PF)) (hs2 := []) (C := True) [(.iconst 0, 0, 0), (.istore_n 2, 0, 0)] [] (by decide +kernel) rfl trivial ?_
  exact lo_X6_satisfies l A G hL ncl hn hn8 s hs 0 (by omega) (fun n2 h2 => absurd h2 (by omega)) _ _
