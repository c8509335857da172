theorem u2_self {α : Type} (f : Nat → Nat → α) (o k : Nat) : u2 f o k (f o k) = f := by
  funext a b
  unfold u2
  split
  · rename_i h
    rw [h.1, h.2]
  · rfl
theorem u2_u2 {α : Type} (f : Nat → Nat → α) (o k : Nat) (v w : α) : u2 (u2 f o k v) o k w = u2 f o k w := by
  funext a b
  unfold u2
  split <;> rfl
def fit (A : Nat → Nat → Int32) (nd : Int32) (n : Nat) : Prop := (A 21 n &&& nd) = nd
noncomputable def anyf (A : Nat → Nat → Int32) (nd : Int32) : Nat → Int32
  | 0 => 0
  | k + 1 => @ite Int32 (fit A nd k) (Classical.propDecidable _) 1 (anyf A nd k)
noncomputable def mis (A : Nat → Nat → Int32) (nd sg : Int32) : Nat → Int32
  | 0 => sg
  | k + 1 => @ite Int32 (fit A nd k) (Classical.propDecidable _) (mis A nd sg k &&& (A 21 k ^^^ (-1))) (mis A nd sg k)
theorem anyf_t {A : Nat → Nat → Int32} {nd : Int32} {k : Nat} (h : fit A nd k) : anyf A nd (k + 1) = 1 := if_pos h
theorem anyf_f {A : Nat → Nat → Int32} {nd : Int32} {k : Nat} (h : ¬ fit A nd k) : anyf A nd (k + 1) = anyf A nd k := if_neg h
theorem mis_t {A : Nat → Nat → Int32} {nd sg : Int32} {k : Nat} (h : fit A nd k) : mis A nd sg (k + 1) = (mis A nd sg k &&& (A 21 k ^^^ (-1))) := if_pos h
theorem mis_f {A : Nat → Nat → Int32} {nd sg : Int32} {k : Nat} (h : ¬ fit A nd k) : mis A nd sg (k + 1) = mis A nd sg k := if_neg h
theorem anyf_up {A : Nat → Nat → Int32} {nd : Int32} {k m : Nat} (h : anyf A nd k = 1) (hk : k ≤ m) : anyf A nd m = 1 := by
  induction m with
  | zero => rw [show k = 0 by omega] at h; exact h
  | succ m ih =>
    by_cases e : k = m + 1
    · rw [← e]; exact h
    · have := ih (by omega)
      rcases Classical.em (fit A nd m) with q | q
      · exact anyf_t q
      · rw [anyf_f q]; exact this
theorem mis_up {A : Nat → Nat → Int32} {nd sg : Int32} {k m : Nat} (h : mis A nd sg k = 0) (hk : k ≤ m) : mis A nd sg m = 0 := by
  induction m with
  | zero => rw [show k = 0 by omega] at h; exact h
  | succ m ih =>
    by_cases e : k = m + 1
    · rw [← e]; exact h
    · have := ih (by omega)
      rcases Classical.em (fit A nd m) with q | q
      · rw [mis_t q, this]; exact Int32.zero_and
      · rw [mis_f q]; exact this
def HavP (A : Nat → Nat → Int32) (nd sg : Int32) (cnt : Nat) : Prop := ¬ anyf A nd cnt = 0 ∧ mis A nd sg cnt = 0
def dt (f g h : Nat → Int32) (p q r : Nat) : Int32 := f p * (g q * h r - g r * h q) - g p * (f q * h r - f r * h q) + h p * (f q * g r - f r * g q)
def fov (A : Nat → Nat → Int32) (x y z w : Int32) (t : Nat) : Int32 := A 13 t * x + A 14 t * y + A 15 t * z - A 16 t * w
def fsd (A : Nat → Nat → Int32) (x y z w : Int32) : Nat → Int32
  | 0 => 0
  | t + 1 => if fov A x y z w t = 0 then fsd A x y z w t ||| ((1 <<< ((0 + nI t) &&& 31)) ||| (1 <<< ((8 + nI t) &&& 31))) else if fov A x y z w t < 0 then fsd A x y z w t ||| ((1 <<< ((0 + nI t) &&& 31)) ||| (1 <<< ((24 + nI t) &&& 31))) else fsd A x y z w t ||| (((1 <<< ((8 + nI t) &&& 31)) ||| (1 <<< ((16 + nI t) &&& 31))) ||| (1 <<< ((24 + nI t) &&& 31)))
theorem fsd_c {A A2 : Nat → Nat → Int32} (h1 : A2 13 = A 13) (h2 : A2 14 = A 14) (h3 : A2 15 = A 15) (h4 : A2 16 = A 16) (x y z w : Int32) (t : Nat) : fsd A2 x y z w t = fsd A x y z w t := by
  induction t with
  | zero => rfl
  | succ t ih =>
    have e : fov A2 x y z w t = fov A x y z w t := by simp only [fov, h1, h2, h3, h4]
    simp only [fsd, e, ih]
def kp (A : Nat → Nat → Int32) (cnt : Nat) (x y z w : Int32) : Nat → Nat → Int32 := u2 (u2 (u2 (u2 (u2 (u2 A 17 cnt x) 18 cnt y) 19 cnt z) 20 cnt w) 21 cnt (fsd A x y z w 8)) 12 9 (A 12 9 + 1)
def D0 (A : Nat → Nat → Int32) (p q r : Nat) : Int32 := dt (A 13) (A 14) (A 15) p q r
def sgn (d : Int32) : Int32 := if d < 0 then -1 else 1
def cw (A : Nat → Nat → Int32) (p q r : Nat) : Int32 := sgn (D0 A p q r) * D0 A p q r
def cx (A : Nat → Nat → Int32) (p q r : Nat) : Int32 := sgn (D0 A p q r) * dt (A 16) (A 14) (A 15) p q r
def cy (A : Nat → Nat → Int32) (p q r : Nat) : Int32 := sgn (D0 A p q r) * dt (A 13) (A 16) (A 15) p q r
def cz (A : Nat → Nat → Int32) (p q r : Nat) : Int32 := sgn (D0 A p q r) * dt (A 13) (A 14) (A 16) p q r
def wth (v b : Int32) : Prop := -b ≤ v ∧ v ≤ b
def InB (A : Nat → Nat → Int32) (p q r : Nat) : Prop := ¬ D0 A p q r = 0 ∧ wth (cx A p q r) (20 * cw A p q r) ∧ wth (cy A p q r) (20 * cw A p q r) ∧ wth (cz A p q r) (20 * cw A p q r)
theorem pl_in {k : Nat} (hk : k < 14) : 0 ≤ nI k ∧ nI k < 14 := ⟨nI_pos' (by omega), nI_lt hk (by decide)⟩

set_option maxRecDepth 100000 in
set_option maxHeartbeats 4000000 in
theorem s_X3_count (l : Launch) (A : Nat → Nat → Int32) (G : Nat → Nat → Int64) : Sem l mX3_count [.ref 12] 27 (A, G, PF) 27 (pv (A 12 9) (A, G, PF)) := by
  refine sem_of_go (by decide) rfl (by decide) (by decide) rfl (Nat.le_of_ble_eq_true rfl) ?_
  show Go l ro0 mX3_count 27 (A, G, PF) 0 [.ref 12] [] 27 (pv (A 12 9) (A, G, PF))
  refine go_blk (pc2 := 4) (L2 := [.ref 12]) (st2 := [.int (A 12 9)]) (M2 := (A, G, PF)) (hs2 := []) (C := True) [(.aload_n 0, 0, 0), (.getfield 39, 3, 9)] [] (by decide +kernel) rfl trivial ?_
  exact go_reti (by decide +kernel) rfl (⟨rfl, rfl⟩)
set_option maxRecDepth 100000 in
set_option maxHeartbeats 4000000 in
theorem s_X3_sidesOf (l : Launch) (A : Nat → Nat → Int32) (G : Nat → Nat → Int64) (n : Nat) (hn : n < 364) : Sem l mX3_sidesOf [.ref 12, .int (nI n)] 27 (A, G, PF) 27 (pv (A 21 n) (A, G, PF)) := by
  refine sem_of_go (by decide) rfl (by decide) (by decide) rfl (Nat.le_of_ble_eq_true rfl) ?_
  show Go l ro0 mX3_sidesOf 27 (A, G, PF) 0 [.ref 12, .int (nI n)] [] 27 (pv (A 21 n) (A, G, PF))
  refine go_blk (pc2 := 1) (L2 := [.ref 12, .int (nI n)]) (st2 := [.int (nI n)]) (M2 := (A, G, PF)) (hs2 := []) (C := True) [(.iload_n 1, 0, 0)] [] (by decide +kernel) rfl trivial ?_
  refine go_ifz (cnd := .lt) (off := 19) 20 (by decide +kernel) (by decide) (fun (h : (nI n) < 0) => absurd h (fun zz => absurd ((nx_lt (a := n) (b := 0) rfl rfl (by omega) (by omega)).mp zz) (by omega))) (fun _ => ?_)
  refine go_blk (pc2 := 8) (L2 := [.ref 12, .int (nI n)]) (st2 := [.int 364, .int (nI n)]) (M2 := (A, G, PF)) (hs2 := []) (C := True) [(.iload_n 1, 0, 0), (.sipush 364, 0, 0)] [] (by decide +kernel) rfl trivial ?_
  refine go_cmp (cnd := .ge) (off := 12) 20 (by decide +kernel) (by decide) (fun (h : 364 ≤ (nI n)) => absurd h (fun zz => absurd ((nx_le (a := 364) (b := n) rfl rfl (by omega) (by omega)).mp zz) (by omega))) (fun _ => ?_)
  refine go_blk (pc2 := 17) (L2 := [.ref 12, .int (nI n)]) (st2 := [.int (A 21 n)]) (M2 := (A, G, PF)) (hs2 := []) (C := ((nI n) = nI n ∧ n < 364) ∧ True) [(.aload_n 0, 0, 0), (.getfield 36, 3, 8), (.iload_n 1, 0, 0), (.iaload, 0, 0)] [n] (by decide +kernel) rfl ⟨⟨rfl, by omega⟩, trivial⟩ ?_
  refine go_goto (off := 4) 21 (by decide +kernel) (by decide) ?_
  exact go_reti (by decide +kernel) rfl (⟨rfl, rfl⟩)
set_option maxRecDepth 100000 in
set_option maxHeartbeats 4000000 in
theorem s_X3_divisorOf (l : Launch) (A : Nat → Nat → Int32) (G : Nat → Nat → Int64) (n : Nat) (hn : n < 364) : Sem l mX3_divisorOf [.ref 12, .int (nI n)] 27 (A, G, PF) 27 (pv (A 20 n) (A, G, PF)) := by
  refine sem_of_go (by decide) rfl (by decide) (by decide) rfl (Nat.le_of_ble_eq_true rfl) ?_
  show Go l ro0 mX3_divisorOf 27 (A, G, PF) 0 [.ref 12, .int (nI n)] [] 27 (pv (A 20 n) (A, G, PF))
  refine go_blk (pc2 := 1) (L2 := [.ref 12, .int (nI n)]) (st2 := [.int (nI n)]) (M2 := (A, G, PF)) (hs2 := []) (C := True) [(.iload_n 1, 0, 0)] [] (by decide +kernel) rfl trivial ?_
  refine go_ifz (cnd := .lt) (off := 19) 20 (by decide +kernel) (by decide) (fun (h : (nI n) < 0) => absurd h (fun zz => absurd ((nx_lt (a := n) (b := 0) rfl rfl (by omega) (by omega)).mp zz) (by omega))) (fun _ => ?_)
  refine go_blk (pc2 := 8) (L2 := [.ref 12, .int (nI n)]) (st2 := [.int 364, .int (nI n)]) (M2 := (A, G, PF)) (hs2 := []) (C := True) [(.iload_n 1, 0, 0), (.sipush 364, 0, 0)] [] (by decide +kernel) rfl trivial ?_
  refine go_cmp (cnd := .ge) (off := 12) 20 (by decide +kernel) (by decide) (fun (h : 364 ≤ (nI n)) => absurd h (fun zz => absurd ((nx_le (a := 364) (b := n) rfl rfl (by omega) (by omega)).mp zz) (by omega))) (fun _ => ?_)
  refine go_blk (pc2 := 17) (L2 := [.ref 12, .int (nI n)]) (st2 := [.int (A 20 n)]) (M2 := (A, G, PF)) (hs2 := []) (C := ((nI n) = nI n ∧ n < 364) ∧ True) [(.aload_n 0, 0, 0), (.getfield 33, 3, 7), (.iload_n 1, 0, 0), (.iaload, 0, 0)] [n] (by decide +kernel) rfl ⟨⟨rfl, by omega⟩, trivial⟩ ?_
  refine go_goto (off := 4) 21 (by decide +kernel) (by decide) ?_
  exact go_reti (by decide +kernel) rfl (⟨rfl, rfl⟩)
set_option maxRecDepth 100000 in
set_option maxHeartbeats 4000000 in
theorem s_X3_sumAt (l : Launch) (A : Nat → Nat → Int32) (G : Nat → Nat → Int64) (n : Nat) (hn : n < 364) (a b c : Int32) : Sem l mX3_sumAt [.ref 12, .int (nI n), .int a, .int b, .int c] 27 (A, G, PF) 27 (pl (((a.toInt64 * (A 17 n).toInt64) + (b.toInt64 * (A 18 n).toInt64)) + (c.toInt64 * (A 19 n).toInt64)) (A, G, PF)) := by
  refine sem_of_go (by decide) rfl (by decide) (by decide) rfl (Nat.le_of_ble_eq_true rfl) ?_
  show Go l ro0 mX3_sumAt 27 (A, G, PF) 0 [.ref 12, .int (nI n), .int a, .int b, .int c] [] 27 (pl (((a.toInt64 * (A 17 n).toInt64) + (b.toInt64 * (A 18 n).toInt64)) + (c.toInt64 * (A 19 n).toInt64)) (A, G, PF))
  refine go_blk (pc2 := 1) (L2 := [.ref 12, .int (nI n), .int a, .int b, .int c]) (st2 := [.int (nI n)]) (M2 := (A, G, PF)) (hs2 := []) (C := True) [(.iload_n 1, 0, 0)] [] (by decide +kernel) rfl trivial ?_
  refine go_ifz (cnd := .lt) (off := 10) 11 (by decide +kernel) (by decide) (fun (h : (nI n) < 0) => absurd h (fun zz => absurd ((nx_lt (a := n) (b := 0) rfl rfl (by omega) (by omega)).mp zz) (by omega))) (fun _ => ?_)
  refine go_blk (pc2 := 8) (L2 := [.ref 12, .int (nI n), .int a, .int b, .int c]) (st2 := [.int 364, .int (nI n)]) (M2 := (A, G, PF)) (hs2 := []) (C := True) [(.iload_n 1, 0, 0), (.sipush 364, 0, 0)] [] (by decide +kernel) rfl trivial ?_
  refine go_cmp (cnd := .lt) (off := 5) 13 (by decide +kernel) (by decide) (fun _ => ?_) (fun (h : ¬ (nI n) < 364) => absurd h (fun zz => zz ((nx_lt (a := n) (b := 364) rfl rfl (by omega) (by omega)).mpr (by omega))))
  refine go_blk (pc2 := 46) (L2 := [.ref 12, .int (nI n), .int a, .int b, .int c]) (st2 := [.long (((a.toInt64 * ((A 17 n).toInt64)) + (b.toInt64 * ((A 18 n).toInt64))) + (c.toInt64 * ((A 19 n).toInt64)))]) (M2 := (A, G, PF)) (hs2 := []) (C := ((nI n) = nI n ∧ n < 364) ∧ ((nI n) = nI n ∧ n < 364) ∧ ((nI n) = nI n ∧ n < 364) ∧ True) [(.iload_n 2, 0, 0), (.i2l, 0, 0), (.aload_n 0, 0, 0), (.getfield 24, 3, 4), (.iload_n 1, 0, 0), (.iaload, 0, 0), (.i2l, 0, 0), (.lmul, 0, 0), (.iload_n 3, 0, 0), (.i2l, 0, 0), (.aload_n 0, 0, 0), (.getfield 27, 3, 5), (.iload_n 1, 0, 0), (.iaload, 0, 0), (.i2l, 0, 0), (.lmul, 0, 0), (.ladd, 0, 0), (.iload 4, 0, 0), (.i2l, 0, 0), (.aload_n 0, 0, 0), (.getfield 30, 3, 6), (.iload_n 1, 0, 0), (.iaload, 0, 0), (.i2l, 0, 0), (.lmul, 0, 0), (.ladd, 0, 0)] [n, n, n] (by decide +kernel) rfl ⟨⟨rfl, by omega⟩, ⟨rfl, by omega⟩, ⟨rfl, by omega⟩, trivial⟩ ?_
  exact go_retl (by decide +kernel) rfl (⟨rfl, rfl⟩)
set_option maxRecDepth 100000 in
set_option maxHeartbeats 4000000 in
theorem lp_X3_havePoint (l : Launch) (A : Nat → Nat → Int32) (G : Nat → Nat → Int64) (cnt : Nat) (hc : A 12 9 = nI cnt) (hc364 : cnt ≤ 364) (nd sg : Int32) : ∀ k, k ≤ cnt → (¬ HavP A nd sg k) → Go l ro0 mX3_havePoint 27 (A, G, PF) 5 [.ref 12, .int nd, .int sg, .int (mis A nd sg k), .int (nI k)] [] 27 (pv (bi (HavP A nd sg cnt)) (A, G, PF)) := by
  refine down cnt (fun k hk ih hinv  => ?_)
  refine go_blk (pc2 := 11) (L2 := [.ref 12, .int nd, .int sg, .int (mis A nd sg k), .int (nI k)]) (st2 := [.int (A 12 9), .int (nI k)]) (M2 := (A, G, PF)) (hs2 := []) (C := True) [(.iload 4, 0, 0), (.aload_n 0, 0, 0), (.getfield 39, 3, 9)] [] (by decide +kernel) rfl trivial ?_
  refine go_cmp (cnd := .ge) (off := 48) 59 (by decide +kernel) (by decide) (fun (c1 : (A 12 9) ≤ (nI k)) => ?_) (fun (c1 : ¬ (A 12 9) ≤ (nI k)) => ?_)
  · skip
    replace c1 : cnt ≤ k := (nx_le (a := cnt) (b := k) hc rfl (by omega) (by omega)).mp c1
    refine go_blk (pc2 := 60) (L2 := [.ref 12, .int nd, .int sg, .int (mis A nd sg k), .int (nI k)]) (st2 := [.int 0]) (M2 := (A, G, PF)) (hs2 := []) (C := True) [(.iconst 0, 0, 0)] [] (by decide +kernel) rfl trivial ?_
    exact go_retz (by decide +kernel) rfl (Or.inl rfl) (pv0 (by rw [show cnt = k by omega]; exact hinv))
  · skip
    replace c1 : ¬ cnt ≤ k := fun zz => c1 ((nx_le (a := cnt) (b := k) hc rfl (by omega) (by omega)).mpr zz)
    refine go_blk (pc2 := 19) (L2 := [.ref 12, .int nd, .int sg, .int (mis A nd sg k), .int (nI k)]) (st2 := [.int 364, .int (nI k)]) (M2 := (A, G, PF)) (hs2 := []) (C := True) [(.iload 4, 0, 0), (.sipush 364, 0, 0)] [] (by decide +kernel) rfl trivial ?_
    refine go_cmp (cnd := .ge) (off := 40) 59 (by decide +kernel) (by decide) (fun (h : 364 ≤ (nI k)) => absurd h (fun zz => absurd ((nx_le (a := 364) (b := k) rfl rfl (by omega) (by omega)).mp zz) (by omega))) (fun _ => ?_)
    refine go_blk (pc2 := 32) (L2 := [.ref 12, .int nd, .int sg, .int (mis A nd sg k), .int (nI k)]) (st2 := [.int nd, .int ((A 21 k) &&& nd)]) (M2 := (A, G, PF)) (hs2 := []) (C := ((nI k) = nI k ∧ k < 364) ∧ True) [(.aload_n 0, 0, 0), (.getfield 36, 3, 8), (.iload 4, 0, 0), (.iaload, 0, 0), (.iload_n 1, 0, 0), (.iand, 0, 0), (.iload_n 1, 0, 0)] [k] (by decide +kernel) rfl ⟨⟨rfl, by omega⟩, trivial⟩ ?_
    refine go_cmp (cnd := .ne) (off := 21) 53 (by decide +kernel) (by decide) (fun (c2 : ¬ ((A 21 k) &&& nd) = nd) => ?_) (fun (c2 : ((A 21 k) &&& nd) = nd) => ?_)
    · skip
      replace c2 : ¬ fit A nd k := c2
      refine go_blk (pc2 := 56) (L2 := [.ref 12, .int nd, .int sg, .int (mis A nd sg k), .int ((nI k) + 1)]) (st2 := []) (M2 := (A, G, PF)) (hs2 := []) (C := True) [(.iinc 4 1, 0, 0)] [] (by decide +kernel) rfl trivial ?_
      refine go_goto (off := -51) 5 (by decide +kernel) (by decide) ?_
      exact go_as (ih (by omega) (by first | (rintro ⟨q1, q2⟩; rw [mis_t (by assumption)] at q2; contradiction) | (rintro ⟨q1, q2⟩; rw [anyf_f (by assumption)] at q1; rw [mis_f (by assumption)] at q2; exact hinv ⟨q1, q2⟩)) ) rfl (by first | rw [mis_t (by assumption), nI_1] | rw [mis_f (by assumption), nI_1]) rfl
    · skip
      replace c2 : fit A nd k := c2
      refine go_blk (pc2 := 48) (L2 := [.ref 12, .int nd, .int sg, .int ((mis A nd sg k) &&& ((A 21 k) ^^^ (-1))), .int (nI k)]) (st2 := [.int ((mis A nd sg k) &&& ((A 21 k) ^^^ (-1)))]) (M2 := (A, G, PF)) (hs2 := []) (C := ((nI k) = nI k ∧ k < 364) ∧ True) [(.iload_n 3, 0, 0), (.aload_n 0, 0, 0), (.getfield 36, 3, 8), (.iload 4, 0, 0), (.iaload, 0, 0), (.iconst (-1), 0, 0), (.ixor, 0, 0), (.iand, 0, 0), (.istore_n 3, 0, 0), (.iload_n 3, 0, 0)] [k] (by decide +kernel) rfl ⟨⟨rfl, by omega⟩, trivial⟩ ?_
      refine go_ifz (cnd := .ne) (off := 5) 53 (by decide +kernel) (by decide) (fun (c3 : ¬ ((mis A nd sg k) &&& ((A 21 k) ^^^ (-1))) = 0) => ?_) (fun (c3 : ((mis A nd sg k) &&& ((A 21 k) ^^^ (-1))) = 0) => ?_)
      · skip
        refine go_blk (pc2 := 56) (L2 := [.ref 12, .int nd, .int sg, .int ((mis A nd sg k) &&& ((A 21 k) ^^^ (-1))), .int ((nI k) + 1)]) (st2 := []) (M2 := (A, G, PF)) (hs2 := []) (C := True) [(.iinc 4 1, 0, 0)] [] (by decide +kernel) rfl trivial ?_
        refine go_goto (off := -51) 5 (by decide +kernel) (by decide) ?_
        exact go_as (ih (by omega) (by first | (rintro ⟨q1, q2⟩; rw [mis_t (by assumption)] at q2; contradiction) | (rintro ⟨q1, q2⟩; rw [anyf_f (by assumption)] at q1; rw [mis_f (by assumption)] at q2; exact hinv ⟨q1, q2⟩)) ) rfl (by first | rw [mis_t (by assumption), nI_1] | rw [mis_f (by assumption), nI_1]) rfl
      · skip
        refine go_blk (pc2 := 52) (L2 := [.ref 12, .int nd, .int sg, .int ((mis A nd sg k) &&& ((A 21 k) ^^^ (-1))), .int (nI k)]) (st2 := [.int 1]) (M2 := (A, G, PF)) (hs2 := []) (C := True) [(.iconst 1, 0, 0)] [] (by decide +kernel) rfl trivial ?_
        exact go_retz (by decide +kernel) rfl (Or.inr rfl) (pv1 (by rw [← mis_t (by assumption)] at *; exact ⟨fun q => absurd ((anyf_up (anyf_t (by assumption)) (show k + 1 ≤ cnt by omega)).symm.trans q) (by decide), mis_up (by assumption) (by omega)⟩))
set_option maxRecDepth 100000 in
set_option maxHeartbeats 4000000 in
theorem s_X3_havePoint (l : Launch) (A : Nat → Nat → Int32) (G : Nat → Nat → Int64) (cnt : Nat) (hc : A 12 9 = nI cnt) (hc364 : cnt ≤ 364) (nd sg : Int32) : Sem l mX3_havePoint [.ref 12, .int nd, .int sg] 27 (A, G, PF) 27 (pv (bi (HavP A nd sg cnt)) (A, G, PF)) := by
  refine sem_of_go (by decide) rfl (by decide) (by decide) rfl (Nat.le_of_ble_eq_true rfl) ?_
  show Go l ro0 mX3_havePoint 27 (A, G, PF) 0 [.ref 12, .int nd, .int sg, .null, .null] [] 27 (pv (bi (HavP A nd sg cnt)) (A, G, PF))
  refine go_blk (pc2 := 5) (L2 := [.ref 12, .int nd, .int sg, .int sg, .int 0]) (st2 := []) (M2 := (A, G, PF)) (hs2 := []) (C := True) [(.iload_n 2, 0, 0), (.istore_n 3, 0, 0), (.iconst 0, 0, 0), (.istore 4, 0, 0)] [] (by decide +kernel) rfl trivial ?_
  exact lp_X3_havePoint l A G cnt hc hc364 nd sg 0 (by omega) (fun q => q.1 rfl)
set_option maxRecDepth 100000 in
set_option maxHeartbeats 4000000 in
theorem s_X3_isPlane (l : Launch) (A : Nat → Nat → Int32) (G : Nat → Nat → Int64) (k : Int32) : Sem l mX3_isPlane [.int k] 27 (A, G, PF) 27 (pv (bi (0 ≤ k ∧ k < 14)) (A, G, PF)) := by
  refine sem_of_go (by decide) rfl (by decide) (by decide) rfl (Nat.le_of_ble_eq_true rfl) ?_
  show Go l ro0 mX3_isPlane 27 (A, G, PF) 0 [.int k] [] 27 (pv (bi (0 ≤ k ∧ k < 14)) (A, G, PF))
  refine go_blk (pc2 := 1) (L2 := [.int k]) (st2 := [.int k]) (M2 := (A, G, PF)) (hs2 := []) (C := True) [(.iload_n 0, 0, 0)] [] (by decide +kernel) rfl trivial ?_
  refine go_ifz (cnd := .lt) (off := 13) 14 (by decide +kernel) (by decide) (fun (c1 : k < 0) => ?_) (fun (c1 : ¬ k < 0) => ?_)
  · skip
    refine go_blk (pc2 := 15) (L2 := [.int k]) (st2 := [.int 0]) (M2 := (A, G, PF)) (hs2 := []) (C := True) [(.iconst 0, 0, 0)] [] (by decide +kernel) rfl trivial ?_
    exact go_retz (by decide +kernel) rfl (Or.inl rfl) (pv0 (by grind))
  · skip
    refine go_blk (pc2 := 7) (L2 := [.int k]) (st2 := [.int 14, .int k]) (M2 := (A, G, PF)) (hs2 := []) (C := True) [(.iload_n 0, 0, 0), (.bipush 14, 0, 0)] [] (by decide +kernel) rfl trivial ?_
    refine go_cmp (cnd := .ge) (off := 7) 14 (by decide +kernel) (by decide) (fun (c2 : 14 ≤ k) => ?_) (fun (c2 : ¬ 14 ≤ k) => ?_)
    · skip
      refine go_blk (pc2 := 15) (L2 := [.int k]) (st2 := [.int 0]) (M2 := (A, G, PF)) (hs2 := []) (C := True) [(.iconst 0, 0, 0)] [] (by decide +kernel) rfl trivial ?_
      exact go_retz (by decide +kernel) rfl (Or.inl rfl) (pv0 (by grind))
    · skip
      refine go_blk (pc2 := 11) (L2 := [.int k]) (st2 := [.int 1]) (M2 := (A, G, PF)) (hs2 := []) (C := True) [(.iconst 1, 0, 0)] [] (by decide +kernel) rfl trivial ?_
      refine go_goto (off := 4) 15 (by decide +kernel) (by decide) ?_
      exact go_retz (by decide +kernel) rfl (Or.inr rfl) (pv1 (by grind))
set_option maxRecDepth 100000 in
set_option maxHeartbeats 4000000 in
theorem s_X3_determinant_13_14_15 (l : Launch) (A : Nat → Nat → Int32) (G : Nat → Nat → Int64) (p q r : Nat) (hp : p < 14) (hq : q < 14) (hr : r < 14) : Sem l mX3_determinant [.ref 13, .ref 14, .ref 15, .int (nI p), .int (nI q), .int (nI r)] 27 (A, G, PF) 27 (pv (dt (A 13) (A 14) (A 15) p q r) (A, G, PF)) := by
  refine sem_of_go (by decide) rfl (by decide) (by decide) rfl (Nat.le_of_ble_eq_true rfl) ?_
  show Go l ro0 mX3_determinant 27 (A, G, PF) 0 [.ref 13, .ref 14, .ref 15, .int (nI p), .int (nI q), .int (nI r)] [] 27 (pv (dt (A 13) (A 14) (A 15) p q r) (A, G, PF))
  refine go_blk (pc2 := 1) (L2 := [.ref 13, .ref 14, .ref 15, .int (nI p), .int (nI q), .int (nI r)]) (st2 := [.int (nI p)]) (M2 := (A, G, PF)) (hs2 := []) (C := True) [(.iload_n 3, 0, 0)] [] (by decide +kernel) rfl trivial ?_
  refine go_call (Y2 := mX3_isPlane) (n2 := 27) (st := []) [] [.int (nI p)] ck_3_74 cwX3_isPlane rfl (by decide +kernel) rfl (fun _ => rfl) (fun h => absurd rfl h) (Nat.le_of_ble_eq_true rfl) (Or.inl rfl) (fun _ _ _ h => h) (s_X3_isPlane l A G (nI p)) (fun v M2 hp1 => ?_)
  obtain ⟨rfl, rfl⟩ := hp1
  rw [bi_t (pl_in (by omega))]
  show Go l ro0 mX3_determinant 27 (A, G, PF) 4 [.ref 13, .ref 14, .ref 15, .int (nI p), .int (nI q), .int (nI r)] [.int 1] 27 _
  refine go_ifz (cnd := .eq) (off := 19) 23 (by decide +kernel) (by decide) (fun (h : (1 : Int32) = 0) => absurd h (by decide)) (fun _ => ?_)
  refine go_blk (pc2 := 9) (L2 := [.ref 13, .ref 14, .ref 15, .int (nI p), .int (nI q), .int (nI r)]) (st2 := [.int (nI q)]) (M2 := (A, G, PF)) (hs2 := []) (C := True) [(.iload 4, 0, 0)] [] (by decide +kernel) rfl trivial ?_
  refine go_call (Y2 := mX3_isPlane) (n2 := 27) (st := []) [] [.int (nI q)] ck_3_74 cwX3_isPlane rfl (by decide +kernel) rfl (fun _ => rfl) (fun h => absurd rfl h) (Nat.le_of_ble_eq_true rfl) (Or.inl rfl) (fun _ _ _ h => h) (s_X3_isPlane l A G (nI q)) (fun v M2 hp2 => ?_)
  obtain ⟨rfl, rfl⟩ := hp2
  rw [bi_t (pl_in (by omega))]
  show Go l ro0 mX3_determinant 27 (A, G, PF) 12 [.ref 13, .ref 14, .ref 15, .int (nI p), .int (nI q), .int (nI r)] [.int 1] 27 _
  refine go_ifz (cnd := .eq) (off := 11) 23 (by decide +kernel) (by decide) (fun (h : (1 : Int32) = 0) => absurd h (by decide)) (fun _ => ?_)
  refine go_blk (pc2 := 17) (L2 := [.ref 13, .ref 14, .ref 15, .int (nI p), .int (nI q), .int (nI r)]) (st2 := [.int (nI r)]) (M2 := (A, G, PF)) (hs2 := []) (C := True) [(.iload 5, 0, 0)] [] (by decide +kernel) rfl trivial ?_
  refine go_call (Y2 := mX3_isPlane) (n2 := 27) (st := []) [] [.int (nI r)] ck_3_74 cwX3_isPlane rfl (by decide +kernel) rfl (fun _ => rfl) (fun h => absurd rfl h) (Nat.le_of_ble_eq_true rfl) (Or.inl rfl) (fun _ _ _ h => h) (s_X3_isPlane l A G (nI r)) (fun v M2 hp3 => ?_)
  obtain ⟨rfl, rfl⟩ := hp3
  rw [bi_t (pl_in (by omega))]
  show Go l ro0 mX3_determinant 27 (A, G, PF) 20 [.ref 13, .ref 14, .ref 15, .int (nI p), .int (nI q), .int (nI r)] [.int 1] 27 _
  refine go_ifz (cnd := .ne) (off := 5) 25 (by decide +kernel) (by decide) (fun _ => ?_) (fun (h : (1 : Int32) = 0) => absurd h (by decide))
  refine go_blk (pc2 := 96) (L2 := [.ref 13, .ref 14, .ref 15, .int (nI p), .int (nI q), .int (nI r)]) (st2 := [.int ((((A 13 p) * (((A 14 q) * (A 15 r)) - ((A 14 r) * (A 15 q)))) - ((A 14 p) * (((A 13 q) * (A 15 r)) - ((A 13 r) * (A 15 q))))) + ((A 15 p) * (((A 13 q) * (A 14 r)) - ((A 13 r) * (A 14 q)))))]) (M2 := (A, G, PF)) (hs2 := []) (C := ((nI p) = nI p ∧ p < 14) ∧ ((nI q) = nI q ∧ q < 14) ∧ ((nI r) = nI r ∧ r < 14) ∧ ((nI r) = nI r ∧ r < 14) ∧ ((nI q) = nI q ∧ q < 14) ∧ ((nI p) = nI p ∧ p < 14) ∧ ((nI q) = nI q ∧ q < 14) ∧ ((nI r) = nI r ∧ r < 14) ∧ ((nI r) = nI r ∧ r < 14) ∧ ((nI q) = nI q ∧ q < 14) ∧ ((nI p) = nI p ∧ p < 14) ∧ ((nI q) = nI q ∧ q < 14) ∧ ((nI r) = nI r ∧ r < 14) ∧ ((nI r) = nI r ∧ r < 14) ∧ ((nI q) = nI q ∧ q < 14) ∧ True) [(.aload_n 0, 0, 0), (.iload_n 3, 0, 0), (.iaload, 0, 0), (.aload_n 1, 0, 0), (.iload 4, 0, 0), (.iaload, 0, 0), (.aload_n 2, 0, 0), (.iload 5, 0, 0), (.iaload, 0, 0), (.imul, 0, 0), (.aload_n 1, 0, 0), (.iload 5, 0, 0), (.iaload, 0, 0), (.aload_n 2, 0, 0), (.iload 4, 0, 0), (.iaload, 0, 0), (.imul, 0, 0), (.isub, 0, 0), (.imul, 0, 0), (.aload_n 1, 0, 0), (.iload_n 3, 0, 0), (.iaload, 0, 0), (.aload_n 0, 0, 0), (.iload 4, 0, 0), (.iaload, 0, 0), (.aload_n 2, 0, 0), (.iload 5, 0, 0), (.iaload, 0, 0), (.imul, 0, 0), (.aload_n 0, 0, 0), (.iload 5, 0, 0), (.iaload, 0, 0), (.aload_n 2, 0, 0), (.iload 4, 0, 0), (.iaload, 0, 0), (.imul, 0, 0), (.isub, 0, 0), (.imul, 0, 0), (.isub, 0, 0), (.aload_n 2, 0, 0), (.iload_n 3, 0, 0), (.iaload, 0, 0), (.aload_n 0, 0, 0), (.iload 4, 0, 0), (.iaload, 0, 0), (.aload_n 1, 0, 0), (.iload 5, 0, 0), (.iaload, 0, 0), (.imul, 0, 0), (.aload_n 0, 0, 0), (.iload 5, 0, 0), (.iaload, 0, 0), (.aload_n 1, 0, 0), (.iload 4, 0, 0), (.iaload, 0, 0), (.imul, 0, 0), (.isub, 0, 0), (.imul, 0, 0), (.iadd, 0, 0)] [p, q, r, r, q, p, q, r, r, q, p, q, r, r, q] (by decide +kernel) rfl ⟨⟨rfl, by omega⟩, ⟨rfl, by omega⟩, ⟨rfl, by omega⟩, ⟨rfl, by omega⟩, ⟨rfl, by omega⟩, ⟨rfl, by omega⟩, ⟨rfl, by omega⟩, ⟨rfl, by omega⟩, ⟨rfl, by omega⟩, ⟨rfl, by omega⟩, ⟨rfl, by omega⟩, ⟨rfl, by omega⟩, ⟨rfl, by omega⟩, ⟨rfl, by omega⟩, ⟨rfl, by omega⟩, trivial⟩ ?_
  exact go_reti (by decide +kernel) rfl (⟨rfl, rfl⟩)
set_option maxRecDepth 100000 in
set_option maxHeartbeats 4000000 in
theorem s_X3_determinant_16_14_15 (l : Launch) (A : Nat → Nat → Int32) (G : Nat → Nat → Int64) (p q r : Nat) (hp : p < 14) (hq : q < 14) (hr : r < 14) : Sem l mX3_determinant [.ref 16, .ref 14, .ref 15, .int (nI p), .int (nI q), .int (nI r)] 27 (A, G, PF) 27 (pv (dt (A 16) (A 14) (A 15) p q r) (A, G, PF)) := by
  refine sem_of_go (by decide) rfl (by decide) (by decide) rfl (Nat.le_of_ble_eq_true rfl) ?_
  show Go l ro0 mX3_determinant 27 (A, G, PF) 0 [.ref 16, .ref 14, .ref 15, .int (nI p), .int (nI q), .int (nI r)] [] 27 (pv (dt (A 16) (A 14) (A 15) p q r) (A, G, PF))
  refine go_blk (pc2 := 1) (L2 := [.ref 16, .ref 14, .ref 15, .int (nI p), .int (nI q), .int (nI r)]) (st2 := [.int (nI p)]) (M2 := (A, G, PF)) (hs2 := []) (C := True) [(.iload_n 3, 0, 0)] [] (by decide +kernel) rfl trivial ?_
  refine go_call (Y2 := mX3_isPlane) (n2 := 27) (st := []) [] [.int (nI p)] ck_3_74 cwX3_isPlane rfl (by decide +kernel) rfl (fun _ => rfl) (fun h => absurd rfl h) (Nat.le_of_ble_eq_true rfl) (Or.inl rfl) (fun _ _ _ h => h) (s_X3_isPlane l A G (nI p)) (fun v M2 hp1 => ?_)
  obtain ⟨rfl, rfl⟩ := hp1
  rw [bi_t (pl_in (by omega))]
  show Go l ro0 mX3_determinant 27 (A, G, PF) 4 [.ref 16, .ref 14, .ref 15, .int (nI p), .int (nI q), .int (nI r)] [.int 1] 27 _
  refine go_ifz (cnd := .eq) (off := 19) 23 (by decide +kernel) (by decide) (fun (h : (1 : Int32) = 0) => absurd h (by decide)) (fun _ => ?_)
  refine go_blk (pc2 := 9) (L2 := [.ref 16, .ref 14, .ref 15, .int (nI p), .int (nI q), .int (nI r)]) (st2 := [.int (nI q)]) (M2 := (A, G, PF)) (hs2 := []) (C := True) [(.iload 4, 0, 0)] [] (by decide +kernel) rfl trivial ?_
  refine go_call (Y2 := mX3_isPlane) (n2 := 27) (st := []) [] [.int (nI q)] ck_3_74 cwX3_isPlane rfl (by decide +kernel) rfl (fun _ => rfl) (fun h => absurd rfl h) (Nat.le_of_ble_eq_true rfl) (Or.inl rfl) (fun _ _ _ h => h) (s_X3_isPlane l A G (nI q)) (fun v M2 hp2 => ?_)
  obtain ⟨rfl, rfl⟩ := hp2
  rw [bi_t (pl_in (by omega))]
  show Go l ro0 mX3_determinant 27 (A, G, PF) 12 [.ref 16, .ref 14, .ref 15, .int (nI p), .int (nI q), .int (nI r)] [.int 1] 27 _
  refine go_ifz (cnd := .eq) (off := 11) 23 (by decide +kernel) (by decide) (fun (h : (1 : Int32) = 0) => absurd h (by decide)) (fun _ => ?_)
  refine go_blk (pc2 := 17) (L2 := [.ref 16, .ref 14, .ref 15, .int (nI p), .int (nI q), .int (nI r)]) (st2 := [.int (nI r)]) (M2 := (A, G, PF)) (hs2 := []) (C := True) [(.iload 5, 0, 0)] [] (by decide +kernel) rfl trivial ?_
  refine go_call (Y2 := mX3_isPlane) (n2 := 27) (st := []) [] [.int (nI r)] ck_3_74 cwX3_isPlane rfl (by decide +kernel) rfl (fun _ => rfl) (fun h => absurd rfl h) (Nat.le_of_ble_eq_true rfl) (Or.inl rfl) (fun _ _ _ h => h) (s_X3_isPlane l A G (nI r)) (fun v M2 hp3 => ?_)
  obtain ⟨rfl, rfl⟩ := hp3
  rw [bi_t (pl_in (by omega))]
  show Go l ro0 mX3_determinant 27 (A, G, PF) 20 [.ref 16, .ref 14, .ref 15, .int (nI p), .int (nI q), .int (nI r)] [.int 1] 27 _
  refine go_ifz (cnd := .ne) (off := 5) 25 (by decide +kernel) (by decide) (fun _ => ?_) (fun (h : (1 : Int32) = 0) => absurd h (by decide))
  refine go_blk (pc2 := 96) (L2 := [.ref 16, .ref 14, .ref 15, .int (nI p), .int (nI q), .int (nI r)]) (st2 := [.int ((((A 16 p) * (((A 14 q) * (A 15 r)) - ((A 14 r) * (A 15 q)))) - ((A 14 p) * (((A 16 q) * (A 15 r)) - ((A 16 r) * (A 15 q))))) + ((A 15 p) * (((A 16 q) * (A 14 r)) - ((A 16 r) * (A 14 q)))))]) (M2 := (A, G, PF)) (hs2 := []) (C := ((nI p) = nI p ∧ p < 14) ∧ ((nI q) = nI q ∧ q < 14) ∧ ((nI r) = nI r ∧ r < 14) ∧ ((nI r) = nI r ∧ r < 14) ∧ ((nI q) = nI q ∧ q < 14) ∧ ((nI p) = nI p ∧ p < 14) ∧ ((nI q) = nI q ∧ q < 14) ∧ ((nI r) = nI r ∧ r < 14) ∧ ((nI r) = nI r ∧ r < 14) ∧ ((nI q) = nI q ∧ q < 14) ∧ ((nI p) = nI p ∧ p < 14) ∧ ((nI q) = nI q ∧ q < 14) ∧ ((nI r) = nI r ∧ r < 14) ∧ ((nI r) = nI r ∧ r < 14) ∧ ((nI q) = nI q ∧ q < 14) ∧ True) [(.aload_n 0, 0, 0), (.iload_n 3, 0, 0), (.iaload, 0, 0), (.aload_n 1, 0, 0), (.iload 4, 0, 0), (.iaload, 0, 0), (.aload_n 2, 0, 0), (.iload 5, 0, 0), (.iaload, 0, 0), (.imul, 0, 0), (.aload_n 1, 0, 0), (.iload 5, 0, 0), (.iaload, 0, 0), (.aload_n 2, 0, 0), (.iload 4, 0, 0), (.iaload, 0, 0), (.imul, 0, 0), (.isub, 0, 0), (.imul, 0, 0), (.aload_n 1, 0, 0), (.iload_n 3, 0, 0), (.iaload, 0, 0), (.aload_n 0, 0, 0), (.iload 4, 0, 0), (.iaload, 0, 0), (.aload_n 2, 0, 0), (.iload 5, 0, 0), (.iaload, 0, 0), (.imul, 0, 0), (.aload_n 0, 0, 0), (.iload 5, 0, 0), (.iaload, 0, 0), (.aload_n 2, 0, 0), (.iload 4, 0, 0), (.iaload, 0, 0), (.imul, 0, 0), (.isub, 0, 0), (.imul, 0, 0), (.isub, 0, 0), (.aload_n 2, 0, 0), (.iload_n 3, 0, 0), (.iaload, 0, 0), (.aload_n 0, 0, 0), (.iload 4, 0, 0), (.iaload, 0, 0), (.aload_n 1, 0, 0), (.iload 5, 0, 0), (.iaload, 0, 0), (.imul, 0, 0), (.aload_n 0, 0, 0), (.iload 5, 0, 0), (.iaload, 0, 0), (.aload_n 1, 0, 0), (.iload 4, 0, 0), (.iaload, 0, 0), (.imul, 0, 0), (.isub, 0, 0), (.imul, 0, 0), (.iadd, 0, 0)] [p, q, r, r, q, p, q, r, r, q, p, q, r, r, q] (by decide +kernel) rfl ⟨⟨rfl, by omega⟩, ⟨rfl, by omega⟩, ⟨rfl, by omega⟩, ⟨rfl, by omega⟩, ⟨rfl, by omega⟩, ⟨rfl, by omega⟩, ⟨rfl, by omega⟩, ⟨rfl, by omega⟩, ⟨rfl, by omega⟩, ⟨rfl, by omega⟩, ⟨rfl, by omega⟩, ⟨rfl, by omega⟩, ⟨rfl, by omega⟩, ⟨rfl, by omega⟩, ⟨rfl, by omega⟩, trivial⟩ ?_
  exact go_reti (by decide +kernel) rfl (⟨rfl, rfl⟩)
set_option maxRecDepth 100000 in
set_option maxHeartbeats 4000000 in
theorem s_X3_determinant_13_16_15 (l : Launch) (A : Nat → Nat → Int32) (G : Nat → Nat → Int64) (p q r : Nat) (hp : p < 14) (hq : q < 14) (hr : r < 14) : Sem l mX3_determinant [.ref 13, .ref 16, .ref 15, .int (nI p), .int (nI q), .int (nI r)] 27 (A, G, PF) 27 (pv (dt (A 13) (A 16) (A 15) p q r) (A, G, PF)) := by
  refine sem_of_go (by decide) rfl (by decide) (by decide) rfl (Nat.le_of_ble_eq_true rfl) ?_
  show Go l ro0 mX3_determinant 27 (A, G, PF) 0 [.ref 13, .ref 16, .ref 15, .int (nI p), .int (nI q), .int (nI r)] [] 27 (pv (dt (A 13) (A 16) (A 15) p q r) (A, G, PF))
  refine go_blk (pc2 := 1) (L2 := [.ref 13, .ref 16, .ref 15, .int (nI p), .int (nI q), .int (nI r)]) (st2 := [.int (nI p)]) (M2 := (A, G, PF)) (hs2 := []) (C := True) [(.iload_n 3, 0, 0)] [] (by decide +kernel) rfl trivial ?_
  refine go_call (Y2 := mX3_isPlane) (n2 := 27) (st := []) [] [.int (nI p)] ck_3_74 cwX3_isPlane rfl (by decide +kernel) rfl (fun _ => rfl) (fun h => absurd rfl h) (Nat.le_of_ble_eq_true rfl) (Or.inl rfl) (fun _ _ _ h => h) (s_X3_isPlane l A G (nI p)) (fun v M2 hp1 => ?_)
  obtain ⟨rfl, rfl⟩ := hp1
  rw [bi_t (pl_in (by omega))]
  show Go l ro0 mX3_determinant 27 (A, G, PF) 4 [.ref 13, .ref 16, .ref 15, .int (nI p), .int (nI q), .int (nI r)] [.int 1] 27 _
  refine go_ifz (cnd := .eq) (off := 19) 23 (by decide +kernel) (by decide) (fun (h : (1 : Int32) = 0) => absurd h (by decide)) (fun _ => ?_)
  refine go_blk (pc2 := 9) (L2 := [.ref 13, .ref 16, .ref 15, .int (nI p), .int (nI q), .int (nI r)]) (st2 := [.int (nI q)]) (M2 := (A, G, PF)) (hs2 := []) (C := True) [(.iload 4, 0, 0)] [] (by decide +kernel) rfl trivial ?_
  refine go_call (Y2 := mX3_isPlane) (n2 := 27) (st := []) [] [.int (nI q)] ck_3_74 cwX3_isPlane rfl (by decide +kernel) rfl (fun _ => rfl) (fun h => absurd rfl h) (Nat.le_of_ble_eq_true rfl) (Or.inl rfl) (fun _ _ _ h => h) (s_X3_isPlane l A G (nI q)) (fun v M2 hp2 => ?_)
  obtain ⟨rfl, rfl⟩ := hp2
  rw [bi_t (pl_in (by omega))]
  show Go l ro0 mX3_determinant 27 (A, G, PF) 12 [.ref 13, .ref 16, .ref 15, .int (nI p), .int (nI q), .int (nI r)] [.int 1] 27 _
  refine go_ifz (cnd := .eq) (off := 11) 23 (by decide +kernel) (by decide) (fun (h : (1 : Int32) = 0) => absurd h (by decide)) (fun _ => ?_)
  refine go_blk (pc2 := 17) (L2 := [.ref 13, .ref 16, .ref 15, .int (nI p), .int (nI q), .int (nI r)]) (st2 := [.int (nI r)]) (M2 := (A, G, PF)) (hs2 := []) (C := True) [(.iload 5, 0, 0)] [] (by decide +kernel) rfl trivial ?_
  refine go_call (Y2 := mX3_isPlane) (n2 := 27) (st := []) [] [.int (nI r)] ck_3_74 cwX3_isPlane rfl (by decide +kernel) rfl (fun _ => rfl) (fun h => absurd rfl h) (Nat.le_of_ble_eq_true rfl) (Or.inl rfl) (fun _ _ _ h => h) (s_X3_isPlane l A G (nI r)) (fun v M2 hp3 => ?_)
  obtain ⟨rfl, rfl⟩ := hp3
  rw [bi_t (pl_in (by omega))]
  show Go l ro0 mX3_determinant 27 (A, G, PF) 20 [.ref 13, .ref 16, .ref 15, .int (nI p), .int (nI q), .int (nI r)] [.int 1] 27 _
  refine go_ifz (cnd := .ne) (off := 5) 25 (by decide +kernel) (by decide) (fun _ => ?_) (fun (h : (1 : Int32) = 0) => absurd h (by decide))
  refine go_blk (pc2 := 96) (L2 := [.ref 13, .ref 16, .ref 15, .int (nI p), .int (nI q), .int (nI r)]) (st2 := [.int ((((A 13 p) * (((A 16 q) * (A 15 r)) - ((A 16 r) * (A 15 q)))) - ((A 16 p) * (((A 13 q) * (A 15 r)) - ((A 13 r) * (A 15 q))))) + ((A 15 p) * (((A 13 q) * (A 16 r)) - ((A 13 r) * (A 16 q)))))]) (M2 := (A, G, PF)) (hs2 := []) (C := ((nI p) = nI p ∧ p < 14) ∧ ((nI q) = nI q ∧ q < 14) ∧ ((nI r) = nI r ∧ r < 14) ∧ ((nI r) = nI r ∧ r < 14) ∧ ((nI q) = nI q ∧ q < 14) ∧ ((nI p) = nI p ∧ p < 14) ∧ ((nI q) = nI q ∧ q < 14) ∧ ((nI r) = nI r ∧ r < 14) ∧ ((nI r) = nI r ∧ r < 14) ∧ ((nI q) = nI q ∧ q < 14) ∧ ((nI p) = nI p ∧ p < 14) ∧ ((nI q) = nI q ∧ q < 14) ∧ ((nI r) = nI r ∧ r < 14) ∧ ((nI r) = nI r ∧ r < 14) ∧ ((nI q) = nI q ∧ q < 14) ∧ True) [(.aload_n 0, 0, 0), (.iload_n 3, 0, 0), (.iaload, 0, 0), (.aload_n 1, 0, 0), (.iload 4, 0, 0), (.iaload, 0, 0), (.aload_n 2, 0, 0), (.iload 5, 0, 0), (.iaload, 0, 0), (.imul, 0, 0), (.aload_n 1, 0, 0), (.iload 5, 0, 0), (.iaload, 0, 0), (.aload_n 2, 0, 0), (.iload 4, 0, 0), (.iaload, 0, 0), (.imul, 0, 0), (.isub, 0, 0), (.imul, 0, 0), (.aload_n 1, 0, 0), (.iload_n 3, 0, 0), (.iaload, 0, 0), (.aload_n 0, 0, 0), (.iload 4, 0, 0), (.iaload, 0, 0), (.aload_n 2, 0, 0), (.iload 5, 0, 0), (.iaload, 0, 0), (.imul, 0, 0), (.aload_n 0, 0, 0), (.iload 5, 0, 0), (.iaload, 0, 0), (.aload_n 2, 0, 0), (.iload 4, 0, 0), (.iaload, 0, 0), (.imul, 0, 0), (.isub, 0, 0), (.imul, 0, 0), (.isub, 0, 0), (.aload_n 2, 0, 0), (.iload_n 3, 0, 0), (.iaload, 0, 0), (.aload_n 0, 0, 0), (.iload 4, 0, 0), (.iaload, 0, 0), (.aload_n 1, 0, 0), (.iload 5, 0, 0), (.iaload, 0, 0), (.imul, 0, 0), (.aload_n 0, 0, 0), (.iload 5, 0, 0), (.iaload, 0, 0), (.aload_n 1, 0, 0), (.iload 4, 0, 0), (.iaload, 0, 0), (.imul, 0, 0), (.isub, 0, 0), (.imul, 0, 0), (.iadd, 0, 0)] [p, q, r, r, q, p, q, r, r, q, p, q, r, r, q] (by decide +kernel) rfl ⟨⟨rfl, by omega⟩, ⟨rfl, by omega⟩, ⟨rfl, by omega⟩, ⟨rfl, by omega⟩, ⟨rfl, by omega⟩, ⟨rfl, by omega⟩, ⟨rfl, by omega⟩, ⟨rfl, by omega⟩, ⟨rfl, by omega⟩, ⟨rfl, by omega⟩, ⟨rfl, by omega⟩, ⟨rfl, by omega⟩, ⟨rfl, by omega⟩, ⟨rfl, by omega⟩, ⟨rfl, by omega⟩, trivial⟩ ?_
  exact go_reti (by decide +kernel) rfl (⟨rfl, rfl⟩)
set_option maxRecDepth 100000 in
set_option maxHeartbeats 4000000 in
theorem s_X3_determinant_13_14_16 (l : Launch) (A : Nat → Nat → Int32) (G : Nat → Nat → Int64) (p q r : Nat) (hp : p < 14) (hq : q < 14) (hr : r < 14) : Sem l mX3_determinant [.ref 13, .ref 14, .ref 16, .int (nI p), .int (nI q), .int (nI r)] 27 (A, G, PF) 27 (pv (dt (A 13) (A 14) (A 16) p q r) (A, G, PF)) := by
  refine sem_of_go (by decide) rfl (by decide) (by decide) rfl (Nat.le_of_ble_eq_true rfl) ?_
  show Go l ro0 mX3_determinant 27 (A, G, PF) 0 [.ref 13, .ref 14, .ref 16, .int (nI p), .int (nI q), .int (nI r)] [] 27 (pv (dt (A 13) (A 14) (A 16) p q r) (A, G, PF))
  refine go_blk (pc2 := 1) (L2 := [.ref 13, .ref 14, .ref 16, .int (nI p), .int (nI q), .int (nI r)]) (st2 := [.int (nI p)]) (M2 := (A, G, PF)) (hs2 := []) (C := True) [(.iload_n 3, 0, 0)] [] (by decide +kernel) rfl trivial ?_
  refine go_call (Y2 := mX3_isPlane) (n2 := 27) (st := []) [] [.int (nI p)] ck_3_74 cwX3_isPlane rfl (by decide +kernel) rfl (fun _ => rfl) (fun h => absurd rfl h) (Nat.le_of_ble_eq_true rfl) (Or.inl rfl) (fun _ _ _ h => h) (s_X3_isPlane l A G (nI p)) (fun v M2 hp1 => ?_)
  obtain ⟨rfl, rfl⟩ := hp1
  rw [bi_t (pl_in (by omega))]
  show Go l ro0 mX3_determinant 27 (A, G, PF) 4 [.ref 13, .ref 14, .ref 16, .int (nI p), .int (nI q), .int (nI r)] [.int 1] 27 _
  refine go_ifz (cnd := .eq) (off := 19) 23 (by decide +kernel) (by decide) (fun (h : (1 : Int32) = 0) => absurd h (by decide)) (fun _ => ?_)
  refine go_blk (pc2 := 9) (L2 := [.ref 13, .ref 14, .ref 16, .int (nI p), .int (nI q), .int (nI r)]) (st2 := [.int (nI q)]) (M2 := (A, G, PF)) (hs2 := []) (C := True) [(.iload 4, 0, 0)] [] (by decide +kernel) rfl trivial ?_
  refine go_call (Y2 := mX3_isPlane) (n2 := 27) (st := []) [] [.int (nI q)] ck_3_74 cwX3_isPlane rfl (by decide +kernel) rfl (fun _ => rfl) (fun h => absurd rfl h) (Nat.le_of_ble_eq_true rfl) (Or.inl rfl) (fun _ _ _ h => h) (s_X3_isPlane l A G (nI q)) (fun v M2 hp2 => ?_)
  obtain ⟨rfl, rfl⟩ := hp2
  rw [bi_t (pl_in (by omega))]
  show Go l ro0 mX3_determinant 27 (A, G, PF) 12 [.ref 13, .ref 14, .ref 16, .int (nI p), .int (nI q), .int (nI r)] [.int 1] 27 _
  refine go_ifz (cnd := .eq) (off := 11) 23 (by decide +kernel) (by decide) (fun (h : (1 : Int32) = 0) => absurd h (by decide)) (fun _ => ?_)
  refine go_blk (pc2 := 17) (L2 := [.ref 13, .ref 14, .ref 16, .int (nI p), .int (nI q), .int (nI r)]) (st2 := [.int (nI r)]) (M2 := (A, G, PF)) (hs2 := []) (C := True) [(.iload 5, 0, 0)] [] (by decide +kernel) rfl trivial ?_
  refine go_call (Y2 := mX3_isPlane) (n2 := 27) (st := []) [] [.int (nI r)] ck_3_74 cwX3_isPlane rfl (by decide +kernel) rfl (fun _ => rfl) (fun h => absurd rfl h) (Nat.le_of_ble_eq_true rfl) (Or.inl rfl) (fun _ _ _ h => h) (s_X3_isPlane l A G (nI r)) (fun v M2 hp3 => ?_)
  obtain ⟨rfl, rfl⟩ := hp3
  rw [bi_t (pl_in (by omega))]
  show Go l ro0 mX3_determinant 27 (A, G, PF) 20 [.ref 13, .ref 14, .ref 16, .int (nI p), .int (nI q), .int (nI r)] [.int 1] 27 _
  refine go_ifz (cnd := .ne) (off := 5) 25 (by decide +kernel) (by decide) (fun _ => ?_) (fun (h : (1 : Int32) = 0) => absurd h (by decide))
  refine go_blk (pc2 := 96) (L2 := [.ref 13, .ref 14, .ref 16, .int (nI p), .int (nI q), .int (nI r)]) (st2 := [.int ((((A 13 p) * (((A 14 q) * (A 16 r)) - ((A 14 r) * (A 16 q)))) - ((A 14 p) * (((A 13 q) * (A 16 r)) - ((A 13 r) * (A 16 q))))) + ((A 16 p) * (((A 13 q) * (A 14 r)) - ((A 13 r) * (A 14 q)))))]) (M2 := (A, G, PF)) (hs2 := []) (C := ((nI p) = nI p ∧ p < 14) ∧ ((nI q) = nI q ∧ q < 14) ∧ ((nI r) = nI r ∧ r < 14) ∧ ((nI r) = nI r ∧ r < 14) ∧ ((nI q) = nI q ∧ q < 14) ∧ ((nI p) = nI p ∧ p < 14) ∧ ((nI q) = nI q ∧ q < 14) ∧ ((nI r) = nI r ∧ r < 14) ∧ ((nI r) = nI r ∧ r < 14) ∧ ((nI q) = nI q ∧ q < 14) ∧ ((nI p) = nI p ∧ p < 14) ∧ ((nI q) = nI q ∧ q < 14) ∧ ((nI r) = nI r ∧ r < 14) ∧ ((nI r) = nI r ∧ r < 14) ∧ ((nI q) = nI q ∧ q < 14) ∧ True) [(.aload_n 0, 0, 0), (.iload_n 3, 0, 0), (.iaload, 0, 0), (.aload_n 1, 0, 0), (.iload 4, 0, 0), (.iaload, 0, 0), (.aload_n 2, 0, 0), (.iload 5, 0, 0), (.iaload, 0, 0), (.imul, 0, 0), (.aload_n 1, 0, 0), (.iload 5, 0, 0), (.iaload, 0, 0), (.aload_n 2, 0, 0), (.iload 4, 0, 0), (.iaload, 0, 0), (.imul, 0, 0), (.isub, 0, 0), (.imul, 0, 0), (.aload_n 1, 0, 0), (.iload_n 3, 0, 0), (.iaload, 0, 0), (.aload_n 0, 0, 0), (.iload 4, 0, 0), (.iaload, 0, 0), (.aload_n 2, 0, 0), (.iload 5, 0, 0), (.iaload, 0, 0), (.imul, 0, 0), (.aload_n 0, 0, 0), (.iload 5, 0, 0), (.iaload, 0, 0), (.aload_n 2, 0, 0), (.iload 4, 0, 0), (.iaload, 0, 0), (.imul, 0, 0), (.isub, 0, 0), (.imul, 0, 0), (.isub, 0, 0), (.aload_n 2, 0, 0), (.iload_n 3, 0, 0), (.iaload, 0, 0), (.aload_n 0, 0, 0), (.iload 4, 0, 0), (.iaload, 0, 0), (.aload_n 1, 0, 0), (.iload 5, 0, 0), (.iaload, 0, 0), (.imul, 0, 0), (.aload_n 0, 0, 0), (.iload 5, 0, 0), (.iaload, 0, 0), (.aload_n 1, 0, 0), (.iload 4, 0, 0), (.iaload, 0, 0), (.imul, 0, 0), (.isub, 0, 0), (.imul, 0, 0), (.iadd, 0, 0)] [p, q, r, r, q, p, q, r, r, q, p, q, r, r, q] (by decide +kernel) rfl ⟨⟨rfl, by omega⟩, ⟨rfl, by omega⟩, ⟨rfl, by omega⟩, ⟨rfl, by omega⟩, ⟨rfl, by omega⟩, ⟨rfl, by omega⟩, ⟨rfl, by omega⟩, ⟨rfl, by omega⟩, ⟨rfl, by omega⟩, ⟨rfl, by omega⟩, ⟨rfl, by omega⟩, ⟨rfl, by omega⟩, ⟨rfl, by omega⟩, ⟨rfl, by omega⟩, ⟨rfl, by omega⟩, trivial⟩ ?_
  exact go_reti (by decide +kernel) rfl (⟨rfl, rfl⟩)
set_option maxRecDepth 100000 in
set_option maxHeartbeats 4000000 in
theorem lp_X3_findSides (l : Launch) (A : Nat → Nat → Int32) (G : Nat → Nat → Int64) (x y z w : Int32) : ∀ t, t ≤ 8 → ∀ (j : Value), Go l ro0 mX3_findSides 27 (A, G, PF) 6 [.ref 12, .int x, .int y, .int z, .int w, .int (fsd A x y z w t), .int (nI t), j] [] 27 (pv (fsd A x y z w 8) (A, G, PF)) := by
  refine down 8 (fun t hk ih j => ?_)
  refine go_blk (pc2 := 10) (L2 := [.ref 12, .int x, .int y, .int z, .int w, .int (fsd A x y z w t), .int (nI t), j]) (st2 := [.int 8, .int (nI t)]) (M2 := (A, G, PF)) (hs2 := []) (C := True) [(.iload 6, 0, 0), (.bipush 8, 0, 0)] [] (by decide +kernel) rfl trivial ?_
  refine go_cmp (cnd := .ge) (off := 124) 134 (by decide +kernel) (by decide) (fun (c1 : 8 ≤ (nI t)) => ?_) (fun (c1 : ¬ 8 ≤ (nI t)) => ?_)
  · skip
    replace c1 : 8 ≤ t := (nx_le (a := 8) (b := t) rfl rfl (by omega) (by omega)).mp c1
    refine go_blk (pc2 := 136) (L2 := [.ref 12, .int x, .int y, .int z, .int w, .int (fsd A x y z w t), .int (nI t), j]) (st2 := [.int (fsd A x y z w t)]) (M2 := (A, G, PF)) (hs2 := []) (C := True) [(.iload 5, 0, 0)] [] (by decide +kernel) rfl trivial ?_
    exact go_reti (by decide +kernel) rfl (pve (by rw [show t = 8 by omega]))
  · skip
    replace c1 : ¬ 8 ≤ t := fun zz => c1 ((nx_le (a := 8) (b := t) rfl rfl (by omega) (by omega)).mpr zz)
    refine go_blk (pc2 := 57) (L2 := [.ref 12, .int x, .int y, .int z, .int w, .int (fsd A x y z w t), .int (nI t), .int (((((A 13 t) * x) + ((A 14 t) * y)) + ((A 15 t) * z)) - ((A 16 t) * w))]) (st2 := [.int (((((A 13 t) * x) + ((A 14 t) * y)) + ((A 15 t) * z)) - ((A 16 t) * w))]) (M2 := (A, G, PF)) (hs2 := []) (C := ((nI t) = nI t ∧ t < 14) ∧ ((nI t) = nI t ∧ t < 14) ∧ ((nI t) = nI t ∧ t < 14) ∧ ((nI t) = nI t ∧ t < 14) ∧ True) [(.aload_n 0, 0, 0), (.getfield 11, 3, 0), (.iload 6, 0, 0), (.iaload, 0, 0), (.iload_n 1, 0, 0), (.imul, 0, 0), (.aload_n 0, 0, 0), (.getfield 15, 3, 1), (.iload 6, 0, 0), (.iaload, 0, 0), (.iload_n 2, 0, 0), (.imul, 0, 0), (.iadd, 0, 0), (.aload_n 0, 0, 0), (.getfield 18, 3, 2), (.iload 6, 0, 0), (.iaload, 0, 0), (.iload_n 3, 0, 0), (.imul, 0, 0), (.iadd, 0, 0), (.aload_n 0, 0, 0), (.getfield 21, 3, 3), (.iload 6, 0, 0), (.iaload, 0, 0), (.iload 4, 0, 0), (.imul, 0, 0), (.isub, 0, 0), (.istore 7, 0, 0), (.iload 7, 0, 0)] [t, t, t, t] (by decide +kernel) rfl ⟨⟨rfl, by omega⟩, ⟨rfl, by omega⟩, ⟨rfl, by omega⟩, ⟨rfl, by omega⟩, trivial⟩ ?_
    refine go_ifz (cnd := .ne) (off := 16) 73 (by decide +kernel) (by decide) (fun (c2 : ¬ (((((A 13 t) * x) + ((A 14 t) * y)) + ((A 15 t) * z)) - ((A 16 t) * w)) = 0) => ?_) (fun (c2 : (((((A 13 t) * x) + ((A 14 t) * y)) + ((A 15 t) * z)) - ((A 16 t) * w)) = 0) => ?_)
    · skip
      replace c2 : ¬ fov A x y z w t = 0 := c2
      refine go_blk (pc2 := 75) (L2 := [.ref 12, .int x, .int y, .int z, .int w, .int (fsd A x y z w t), .int (nI t), .int (((((A 13 t) * x) + ((A 14 t) * y)) + ((A 15 t) * z)) - ((A 16 t) * w))]) (st2 := [.int (((((A 13 t) * x) + ((A 14 t) * y)) + ((A 15 t) * z)) - ((A 16 t) * w))]) (M2 := (A, G, PF)) (hs2 := []) (C := True) [(.iload 7, 0, 0)] [] (by decide +kernel) rfl trivial ?_
      refine go_ifz (cnd := .ge) (off := 25) 100 (by decide +kernel) (by decide) (fun (c3 : 0 ≤ (((((A 13 t) * x) + ((A 14 t) * y)) + ((A 15 t) * z)) - ((A 16 t) * w))) => ?_) (fun (c3 : ¬ 0 ≤ (((((A 13 t) * x) + ((A 14 t) * y)) + ((A 15 t) * z)) - ((A 16 t) * w))) => ?_)
      · skip
        replace c3 : 0 ≤ fov A x y z w t := c3
        refine go_blk (pc2 := 106) (L2 := [.ref 12, .int x, .int y, .int z, .int w, .int (fsd A x y z w t), .int (nI t), .int (((((A 13 t) * x) + ((A 14 t) * y)) + ((A 15 t) * z)) - ((A 16 t) * w))]) (st2 := [.int (nI t), .int 8, .int (fsd A x y z w t)]) (M2 := (A, G, PF)) (hs2 := []) (C := True) [(.iload 5, 0, 0), (.bipush 8, 0, 0), (.iload 6, 0, 0)] [] (by decide +kernel) rfl trivial ?_
        refine go_call (Y2 := mX5_side) (n2 := 27) (st := [.int (fsd A x y z w t)]) [] [.int 8, .int (nI t)] ck_3_86 cwX5_side rfl (by decide +kernel) rfl (fun _ => rfl) (fun h => absurd rfl h) (Nat.le_of_ble_eq_true rfl) (Or.inl rfl) (fun _ _ _ h => h) (s_X5_side l A G 8 (nI t)) (fun v M2 hp4 => ?_)
        obtain ⟨rfl, rfl⟩ := hp4
        show Go l ro0 mX3_findSides 27 (A, G, PF) 109 [.ref 12, .int x, .int y, .int z, .int w, .int (fsd A x y z w t), .int (nI t), .int (((((A 13 t) * x) + ((A 14 t) * y)) + ((A 15 t) * z)) - ((A 16 t) * w))] [.int (1 <<< ((8 + (nI t)) &&& 31)), .int (fsd A x y z w t)] 27 _
        refine go_blk (pc2 := 113) (L2 := [.ref 12, .int x, .int y, .int z, .int w, .int (fsd A x y z w t), .int (nI t), .int (((((A 13 t) * x) + ((A 14 t) * y)) + ((A 15 t) * z)) - ((A 16 t) * w))]) (st2 := [.int (nI t), .int 16, .int (1 <<< ((8 + (nI t)) &&& 31)), .int (fsd A x y z w t)]) (M2 := (A, G, PF)) (hs2 := []) (C := True) [(.bipush 16, 0, 0), (.iload 6, 0, 0)] [] (by decide +kernel) rfl trivial ?_
        refine go_call (Y2 := mX5_side) (n2 := 27) (st := [.int (1 <<< ((8 + (nI t)) &&& 31)), .int (fsd A x y z w t)]) [] [.int 16, .int (nI t)] ck_3_86 cwX5_side rfl (by decide +kernel) rfl (fun _ => rfl) (fun h => absurd rfl h) (Nat.le_of_ble_eq_true rfl) (Or.inl rfl) (fun _ _ _ h => h) (s_X5_side l A G 16 (nI t)) (fun v M2 hp5 => ?_)
        obtain ⟨rfl, rfl⟩ := hp5
        show Go l ro0 mX3_findSides 27 (A, G, PF) 116 [.ref 12, .int x, .int y, .int z, .int w, .int (fsd A x y z w t), .int (nI t), .int (((((A 13 t) * x) + ((A 14 t) * y)) + ((A 15 t) * z)) - ((A 16 t) * w))] [.int (1 <<< ((16 + (nI t)) &&& 31)), .int (1 <<< ((8 + (nI t)) &&& 31)), .int (fsd A x y z w t)] 27 _
        refine go_blk (pc2 := 121) (L2 := [.ref 12, .int x, .int y, .int z, .int w, .int (fsd A x y z w t), .int (nI t), .int (((((A 13 t) * x) + ((A 14 t) * y)) + ((A 15 t) * z)) - ((A 16 t) * w))]) (st2 := [.int (nI t), .int 24, .int ((1 <<< ((8 + (nI t)) &&& 31)) ||| (1 <<< ((16 + (nI t)) &&& 31))), .int (fsd A x y z w t)]) (M2 := (A, G, PF)) (hs2 := []) (C := True) [(.ior, 0, 0), (.bipush 24, 0, 0), (.iload 6, 0, 0)] [] (by decide +kernel) rfl trivial ?_
        refine go_call (Y2 := mX5_side) (n2 := 27) (st := [.int ((1 <<< ((8 + (nI t)) &&& 31)) ||| (1 <<< ((16 + (nI t)) &&& 31))), .int (fsd A x y z w t)]) [] [.int 24, .int (nI t)] ck_3_86 cwX5_side rfl (by decide +kernel) rfl (fun _ => rfl) (fun h => absurd rfl h) (Nat.le_of_ble_eq_true rfl) (Or.inl rfl) (fun _ _ _ h => h) (s_X5_side l A G 24 (nI t)) (fun v M2 hp6 => ?_)
        obtain ⟨rfl, rfl⟩ := hp6
        show Go l ro0 mX3_findSides 27 (A, G, PF) 124 [.ref 12, .int x, .int y, .int z, .int w, .int (fsd A x y z w t), .int (nI t), .int (((((A 13 t) * x) + ((A 14 t) * y)) + ((A 15 t) * z)) - ((A 16 t) * w))] [.int (1 <<< ((24 + (nI t)) &&& 31)), .int ((1 <<< ((8 + (nI t)) &&& 31)) ||| (1 <<< ((16 + (nI t)) &&& 31))), .int (fsd A x y z w t)] 27 _
        refine go_blk (pc2 := 131) (L2 := [.ref 12, .int x, .int y, .int z, .int w, .int ((fsd A x y z w t) ||| (((1 <<< ((8 + (nI t)) &&& 31)) ||| (1 <<< ((16 + (nI t)) &&& 31))) ||| (1 <<< ((24 + (nI t)) &&& 31)))), .int ((nI t) + 1), .int (((((A 13 t) * x) + ((A 14 t) * y)) + ((A 15 t) * z)) - ((A 16 t) * w))]) (st2 := []) (M2 := (A, G, PF)) (hs2 := []) (C := True) [(.ior, 0, 0), (.ior, 0, 0), (.istore 5, 0, 0), (.iinc 6 1, 0, 0)] [] (by decide +kernel) rfl trivial ?_
        refine go_goto (off := -125) 6 (by decide +kernel) (by decide) ?_
        exact go_as (ih (by omega) (.int (((((A 13 t) * x) + ((A 14 t) * y)) + ((A 15 t) * z)) - ((A 16 t) * w)))) rfl (by simp only [fsd, nI_1]; first | rw [if_pos (by assumption)] | (rw [if_neg (by assumption)]; first | rw [if_pos (Int32.not_le.mp (by assumption))] | rw [if_neg (Int32.not_lt.mpr (by assumption))])) rfl
      · skip
        replace c3 : ¬ 0 ≤ fov A x y z w t := c3
        refine go_blk (pc2 := 83) (L2 := [.ref 12, .int x, .int y, .int z, .int w, .int (fsd A x y z w t), .int (nI t), .int (((((A 13 t) * x) + ((A 14 t) * y)) + ((A 15 t) * z)) - ((A 16 t) * w))]) (st2 := [.int (nI t), .int 0, .int (fsd A x y z w t)]) (M2 := (A, G, PF)) (hs2 := []) (C := True) [(.iload 5, 0, 0), (.iconst 0, 0, 0), (.iload 6, 0, 0)] [] (by decide +kernel) rfl trivial ?_
        refine go_call (Y2 := mX5_side) (n2 := 27) (st := [.int (fsd A x y z w t)]) [] [.int 0, .int (nI t)] ck_3_86 cwX5_side rfl (by decide +kernel) rfl (fun _ => rfl) (fun h => absurd rfl h) (Nat.le_of_ble_eq_true rfl) (Or.inl rfl) (fun _ _ _ h => h) (s_X5_side l A G 0 (nI t)) (fun v M2 hp7 => ?_)
        obtain ⟨rfl, rfl⟩ := hp7
        show Go l ro0 mX3_findSides 27 (A, G, PF) 86 [.ref 12, .int x, .int y, .int z, .int w, .int (fsd A x y z w t), .int (nI t), .int (((((A 13 t) * x) + ((A 14 t) * y)) + ((A 15 t) * z)) - ((A 16 t) * w))] [.int (1 <<< ((0 + (nI t)) &&& 31)), .int (fsd A x y z w t)] 27 _
        refine go_blk (pc2 := 90) (L2 := [.ref 12, .int x, .int y, .int z, .int w, .int (fsd A x y z w t), .int (nI t), .int (((((A 13 t) * x) + ((A 14 t) * y)) + ((A 15 t) * z)) - ((A 16 t) * w))]) (st2 := [.int (nI t), .int 24, .int (1 <<< ((0 + (nI t)) &&& 31)), .int (fsd A x y z w t)]) (M2 := (A, G, PF)) (hs2 := []) (C := True) [(.bipush 24, 0, 0), (.iload 6, 0, 0)] [] (by decide +kernel) rfl trivial ?_
        refine go_call (Y2 := mX5_side) (n2 := 27) (st := [.int (1 <<< ((0 + (nI t)) &&& 31)), .int (fsd A x y z w t)]) [] [.int 24, .int (nI t)] ck_3_86 cwX5_side rfl (by decide +kernel) rfl (fun _ => rfl) (fun h => absurd rfl h) (Nat.le_of_ble_eq_true rfl) (Or.inl rfl) (fun _ _ _ h => h) (s_X5_side l A G 24 (nI t)) (fun v M2 hp8 => ?_)
        obtain ⟨rfl, rfl⟩ := hp8
        show Go l ro0 mX3_findSides 27 (A, G, PF) 93 [.ref 12, .int x, .int y, .int z, .int w, .int (fsd A x y z w t), .int (nI t), .int (((((A 13 t) * x) + ((A 14 t) * y)) + ((A 15 t) * z)) - ((A 16 t) * w))] [.int (1 <<< ((24 + (nI t)) &&& 31)), .int (1 <<< ((0 + (nI t)) &&& 31)), .int (fsd A x y z w t)] 27 _
        refine go_blk (pc2 := 97) (L2 := [.ref 12, .int x, .int y, .int z, .int w, .int ((fsd A x y z w t) ||| ((1 <<< ((0 + (nI t)) &&& 31)) ||| (1 <<< ((24 + (nI t)) &&& 31)))), .int (nI t), .int (((((A 13 t) * x) + ((A 14 t) * y)) + ((A 15 t) * z)) - ((A 16 t) * w))]) (st2 := []) (M2 := (A, G, PF)) (hs2 := []) (C := True) [(.ior, 0, 0), (.ior, 0, 0), (.istore 5, 0, 0)] [] (by decide +kernel) rfl trivial ?_
        refine go_goto (off := 31) 128 (by decide +kernel) (by decide) ?_
        refine go_blk (pc2 := 131) (L2 := [.ref 12, .int x, .int y, .int z, .int w, .int ((fsd A x y z w t) ||| ((1 <<< ((0 + (nI t)) &&& 31)) ||| (1 <<< ((24 + (nI t)) &&& 31)))), .int ((nI t) + 1), .int (((((A 13 t) * x) + ((A 14 t) * y)) + ((A 15 t) * z)) - ((A 16 t) * w))]) (st2 := []) (M2 := (A, G, PF)) (hs2 := []) (C := True) [(.iinc 6 1, 0, 0)] [] (by decide +kernel) rfl trivial ?_
        refine go_goto (off := -125) 6 (by decide +kernel) (by decide) ?_
        exact go_as (ih (by omega) (.int (((((A 13 t) * x) + ((A 14 t) * y)) + ((A 15 t) * z)) - ((A 16 t) * w)))) rfl (by simp only [fsd, nI_1]; first | rw [if_pos (by assumption)] | (rw [if_neg (by assumption)]; first | rw [if_pos (Int32.not_le.mp (by assumption))] | rw [if_neg (Int32.not_lt.mpr (by assumption))])) rfl
    · skip
      replace c2 : fov A x y z w t = 0 := c2
      refine go_blk (pc2 := 64) (L2 := [.ref 12, .int x, .int y, .int z, .int w, .int (fsd A x y z w t), .int (nI t), .int (((((A 13 t) * x) + ((A 14 t) * y)) + ((A 15 t) * z)) - ((A 16 t) * w))]) (st2 := [.int (nI t), .int (fsd A x y z w t)]) (M2 := (A, G, PF)) (hs2 := []) (C := True) [(.iload 5, 0, 0), (.iload 6, 0, 0)] [] (by decide +kernel) rfl trivial ?_
      refine go_call (Y2 := mX5_onPlane) (n2 := 27) (st := [.int (fsd A x y z w t)]) [] [.int (nI t)] ck_3_82 cwX5_onPlane rfl (by decide +kernel) rfl (fun _ => rfl) (fun h => absurd rfl h) (Nat.le_of_ble_eq_true rfl) (Or.inl rfl) (fun _ _ _ h => h) (s_X5_onPlane l A G (nI t)) (fun v M2 hp9 => ?_)
      obtain ⟨rfl, rfl⟩ := hp9
      show Go l ro0 mX3_findSides 27 (A, G, PF) 67 [.ref 12, .int x, .int y, .int z, .int w, .int (fsd A x y z w t), .int (nI t), .int (((((A 13 t) * x) + ((A 14 t) * y)) + ((A 15 t) * z)) - ((A 16 t) * w))] [.int ((1 <<< ((0 + (nI t)) &&& 31)) ||| (1 <<< ((8 + (nI t)) &&& 31))), .int (fsd A x y z w t)] 27 _
      refine go_blk (pc2 := 70) (L2 := [.ref 12, .int x, .int y, .int z, .int w, .int ((fsd A x y z w t) ||| ((1 <<< ((0 + (nI t)) &&& 31)) ||| (1 <<< ((8 + (nI t)) &&& 31)))), .int (nI t), .int (((((A 13 t) * x) + ((A 14 t) * y)) + ((A 15 t) * z)) - ((A 16 t) * w))]) (st2 := []) (M2 := (A, G, PF)) (hs2 := []) (C := True) [(.ior, 0, 0), (.istore 5, 0, 0)] [] (by decide +kernel) rfl trivial ?_
      refine go_goto (off := 58) 128 (by decide +kernel) (by decide) ?_
      refine go_blk (pc2 := 131) (L2 := [.ref 12, .int x, .int y, .int z, .int w, .int ((fsd A x y z w t) ||| ((1 <<< ((0 + (nI t)) &&& 31)) ||| (1 <<< ((8 + (nI t)) &&& 31)))), .int ((nI t) + 1), .int (((((A 13 t) * x) + ((A 14 t) * y)) + ((A 15 t) * z)) - ((A 16 t) * w))]) (st2 := []) (M2 := (A, G, PF)) (hs2 := []) (C := True) [(.iinc 6 1, 0, 0)] [] (by decide +kernel) rfl trivial ?_
      refine go_goto (off := -125) 6 (by decide +kernel) (by decide) ?_
      exact go_as (ih (by omega) (.int (((((A 13 t) * x) + ((A 14 t) * y)) + ((A 15 t) * z)) - ((A 16 t) * w)))) rfl (by simp only [fsd, nI_1]; first | rw [if_pos (by assumption)] | (rw [if_neg (by assumption)]; first | rw [if_pos (Int32.not_le.mp (by assumption))] | rw [if_neg (Int32.not_lt.mpr (by assumption))])) rfl
set_option maxRecDepth 100000 in
set_option maxHeartbeats 4000000 in
theorem s_X3_findSides (l : Launch) (A : Nat → Nat → Int32) (G : Nat → Nat → Int64) (x y z w : Int32) : Sem l mX3_findSides [.ref 12, .int x, .int y, .int z, .int w] 27 (A, G, PF) 27 (pv (fsd A x y z w 8) (A, G, PF)) := by
  refine sem_of_go (by decide) rfl (by decide) (by decide) rfl (Nat.le_of_ble_eq_true rfl) ?_
  show Go l ro0 mX3_findSides 27 (A, G, PF) 0 [.ref 12, .int x, .int y, .int z, .int w, .null, .null, .null] [] 27 (pv (fsd A x y z w 8) (A, G, PF))
  refine go_blk (pc2 := 6) (L2 := [.ref 12, .int x, .int y, .int z, .int w, .int 0, .int 0, .null]) (st2 := []) (M2 := (A, G, PF)) (hs2 := []) (C := True) [(.iconst 0, 0, 0), (.istore 5, 0, 0), (.iconst 0, 0, 0), (.istore 6, 0, 0)] [] (by decide +kernel) rfl trivial ?_
  exact lp_X3_findSides l A G x y z w 0 (by omega) _
set_option maxRecDepth 100000 in
set_option maxHeartbeats 4000000 in
theorem s_X3_keep (l : Launch) (A : Nat → Nat → Int32) (G : Nat → Nat → Int64) (x y z w : Int32) (cnt : Nat) (hc : A 12 9 = nI cnt) (hlt : cnt < 364) : Sem l mX3_keep [.ref 12, .int x, .int y, .int z, .int w] 27 (A, G, PF) 27 (pm (kp A cnt x y z w, G, PF)) := by
  refine sem_of_go (by decide) rfl (by decide) (by decide) rfl (Nat.le_of_ble_eq_true rfl) ?_
  show Go l ro0 mX3_keep 27 (A, G, PF) 0 [.ref 12, .int x, .int y, .int z, .int w] [] 27 (pm (kp A cnt x y z w, G, PF))
  refine go_blk (pc2 := 4) (L2 := [.ref 12, .int x, .int y, .int z, .int w]) (st2 := [.int (A 12 9)]) (M2 := (A, G, PF)) (hs2 := []) (C := True) [(.aload_n 0, 0, 0), (.getfield 39, 3, 9)] [] (by decide +kernel) rfl trivial ?_
  refine go_ifz (cnd := .lt) (off := 13) 17 (by decide +kernel) (by decide) (fun (h : (A 12 9) < 0) => absurd h (fun zz => absurd ((nx_lt (a := cnt) (b := 0) hc rfl (by omega) (by omega)).mp zz) (by omega))) (fun _ => ?_)
  refine go_blk (pc2 := 14) (L2 := [.ref 12, .int x, .int y, .int z, .int w]) (st2 := [.int 364, .int (A 12 9)]) (M2 := (A, G, PF)) (hs2 := []) (C := True) [(.aload_n 0, 0, 0), (.getfield 39, 3, 9), (.sipush 364, 0, 0)] [] (by decide +kernel) rfl trivial ?_
  refine go_cmp (cnd := .lt) (off := 4) 18 (by decide +kernel) (by decide) (fun _ => ?_) (fun (h : ¬ (A 12 9) < 364) => absurd h (fun zz => zz ((nx_lt (a := cnt) (b := 364) hc rfl (by omega) (by omega)).mpr (by omega))))
  refine go_blk (pc2 := 73) (L2 := [.ref 12, .int x, .int y, .int z, .int w]) (st2 := [.int w, .int z, .int y, .int x, .ref 12, .int (A 12 9), .ref 21]) (M2 := ((u2 (u2 (u2 (u2 A 17 cnt x) 18 cnt y) 19 cnt z) 20 cnt w), G, PF)) (hs2 := []) (C := ((A 12 9) = nI cnt ∧ cnt < 364) ∧ ((A 12 9) = nI cnt ∧ cnt < 364) ∧ ((A 12 9) = nI cnt ∧ cnt < 364) ∧ ((A 12 9) = nI cnt ∧ cnt < 364) ∧ True) [(.aload_n 0, 0, 0), (.getfield 24, 3, 4), (.aload_n 0, 0, 0), (.getfield 39, 3, 9), (.iload_n 1, 0, 0), (.iastore, 0, 0), (.aload_n 0, 0, 0), (.getfield 27, 3, 5), (.aload_n 0, 0, 0), (.getfield 39, 3, 9), (.iload_n 2, 0, 0), (.iastore, 0, 0), (.aload_n 0, 0, 0), (.getfield 30, 3, 6), (.aload_n 0, 0, 0), (.getfield 39, 3, 9), (.iload_n 3, 0, 0), (.iastore, 0, 0), (.aload_n 0, 0, 0), (.getfield 33, 3, 7), (.aload_n 0, 0, 0), (.getfield 39, 3, 9), (.iload 4, 0, 0), (.iastore, 0, 0), (.aload_n 0, 0, 0), (.getfield 36, 3, 8), (.aload_n 0, 0, 0), (.getfield 39, 3, 9), (.aload_n 0, 0, 0), (.iload_n 1, 0, 0), (.iload_n 2, 0, 0), (.iload_n 3, 0, 0), (.iload 4, 0, 0)] [cnt, cnt, cnt, cnt] (by decide +kernel) rfl ⟨⟨hc, by omega⟩, ⟨hc, by omega⟩, ⟨hc, by omega⟩, ⟨hc, by omega⟩, trivial⟩ ?_
  refine go_call (Y2 := mX3_findSides) (n2 := 27) (st := [.int (A 12 9), .ref 21]) [.ref 12] [.int x, .int y, .int z, .int w] ck_3_78 cwX3_findSides rfl (by decide +kernel) rfl (fun h => absurd h (by decide)) (fun _ => ⟨12, rfl, by decide, rfl⟩) (Nat.le_of_ble_eq_true rfl) (Or.inl rfl) (fun _ _ _ h => h) (s_X3_findSides l (u2 (u2 (u2 (u2 A 17 cnt x) 18 cnt y) 19 cnt z) 20 cnt w) G x y z w) (fun v M2 hp1 => ?_)
  obtain ⟨rfl, rfl⟩ := hp1
  rw [fsd_c (A2 := (u2 (u2 (u2 (u2 A 17 cnt x) 18 cnt y) 19 cnt z) 20 cnt w)) (A := A) rfl rfl rfl rfl]
  show Go l ro0 mX3_keep 27 ((u2 (u2 (u2 (u2 A 17 cnt x) 18 cnt y) 19 cnt z) 20 cnt w), G, PF) 76 [.ref 12, .int x, .int y, .int z, .int w] [.int (fsd A x y z w 8), .int (A 12 9), .ref 21] 27 _
  refine go_blk (pc2 := 87) (L2 := [.ref 12, .int x, .int y, .int z, .int w]) (st2 := []) (M2 := ((u2 (u2 (u2 (u2 (u2 (u2 A 17 cnt x) 18 cnt y) 19 cnt z) 20 cnt w) 21 cnt (fsd A x y z w 8)) 12 9 ((A 12 9) + 1)), G, PF)) (hs2 := []) (C := ((A 12 9) = nI cnt ∧ cnt < 364) ∧ True) [(.iastore, 0, 0), (.aload_n 0, 0, 0), (.dup, 0, 0), (.getfield 39, 3, 9), (.iconst 1, 0, 0), (.iadd, 0, 0), (.putfield 39, 3, 9)] [cnt] (by decide +kernel) rfl ⟨⟨hc, by omega⟩, trivial⟩ ?_
  exact go_retv (by decide +kernel) rfl (⟨rfl, rfl⟩)
set_option maxRecDepth 100000 in
set_option maxHeartbeats 4000000 in
theorem s_X3_meet (l : Launch) (A : Nat → Nat → Int32) (G : Nat → Nat → Int64) (p q r1 : Nat) (hp : p < 14) (hq : q < 14) (hr : r1 < 14) (cnt : Nat) (hc : A 12 9 = nI cnt) (hlt : cnt < 364) : Sem l mX3_meet [.ref 12, .int (nI p), .int (nI q), .int (nI r1)] 27 (A, G, PF) 27 (fun r M2 => r = none ∧ ((InB A p q r1 ∧ M2 = (kp A cnt (cx A p q r1) (cy A p q r1) (cz A p q r1) (cw A p q r1), G, PF)) ∨ (¬ InB A p q r1 ∧ M2 = (A, G, PF)))) := by
  refine sem_of_go (by decide) rfl (by decide) (by decide) rfl (Nat.le_of_ble_eq_true rfl) ?_
  show Go l ro0 mX3_meet 27 (A, G, PF) 0 [.ref 12, .int (nI p), .int (nI q), .int (nI r1), .null, .null, .null, .null, .null, .null, .null] [] 27 (fun r M2 => r = none ∧ ((InB A p q r1 ∧ M2 = (kp A cnt (cx A p q r1) (cy A p q r1) (cz A p q r1) (cw A p q r1), G, PF)) ∨ (¬ InB A p q r1 ∧ M2 = (A, G, PF))))
  refine go_blk (pc2 := 15) (L2 := [.ref 12, .int (nI p), .int (nI q), .int (nI r1), .null, .null, .null, .null, .null, .null, .null]) (st2 := [.int (nI r1), .int (nI q), .int (nI p), .ref 15, .ref 14, .ref 13]) (M2 := (A, G, PF)) (hs2 := []) (C := True) [(.aload_n 0, 0, 0), (.getfield 11, 3, 0), (.aload_n 0, 0, 0), (.getfield 15, 3, 1), (.aload_n 0, 0, 0), (.getfield 18, 3, 2), (.iload_n 1, 0, 0), (.iload_n 2, 0, 0), (.iload_n 3, 0, 0)] [] (by decide +kernel) rfl trivial ?_
  refine go_call (Y2 := mX3_determinant) (n2 := 27) (st := []) [] [.ref 13, .ref 14, .ref 15, .int (nI p), .int (nI q), .int (nI r1)] ck_3_62 cwX3_determinant rfl (by decide +kernel) rfl (fun _ => rfl) (fun h => absurd rfl h) (Nat.le_of_ble_eq_true rfl) (Or.inl rfl) (fun _ _ _ h => h) (s_X3_determinant_13_14_15 l A G p q r1 hp hq hr) (fun v M2 hp1 => ?_)
  obtain ⟨rfl, rfl⟩ := hp1
  show Go l ro0 mX3_meet 27 (A, G, PF) 18 [.ref 12, .int (nI p), .int (nI q), .int (nI r1), .null, .null, .null, .null, .null, .null, .null] [.int (dt (A 13) (A 14) (A 15) p q r1)] 27 _
  refine go_blk (pc2 := 22) (L2 := [.ref 12, .int (nI p), .int (nI q), .int (nI r1), .int (dt (A 13) (A 14) (A 15) p q r1), .null, .null, .null, .null, .null, .null]) (st2 := [.int (dt (A 13) (A 14) (A 15) p q r1)]) (M2 := (A, G, PF)) (hs2 := []) (C := True) [(.istore 4, 0, 0), (.iload 4, 0, 0)] [] (by decide +kernel) rfl trivial ?_
  refine go_ifz (cnd := .ne) (off := 4) 26 (by decide +kernel) (by decide) (fun (c2 : ¬ (dt (A 13) (A 14) (A 15) p q r1) = 0) => ?_) (fun (c2 : (dt (A 13) (A 14) (A 15) p q r1) = 0) => ?_)
  · skip
    refine go_blk (pc2 := 28) (L2 := [.ref 12, .int (nI p), .int (nI q), .int (nI r1), .int (dt (A 13) (A 14) (A 15) p q r1), .null, .null, .null, .null, .null, .null]) (st2 := [.int (dt (A 13) (A 14) (A 15) p q r1)]) (M2 := (A, G, PF)) (hs2 := []) (C := True) [(.iload 4, 0, 0)] [] (by decide +kernel) rfl trivial ?_
    refine go_ifz (cnd := .ge) (off := 7) 35 (by decide +kernel) (by decide) (fun (c3 : 0 ≤ (dt (A 13) (A 14) (A 15) p q r1)) => ?_) (fun (c3 : ¬ 0 ≤ (dt (A 13) (A 14) (A 15) p q r1)) => ?_)
    · skip
      have hsg : sgn (D0 A p q r1) = 1 := if_neg (Int32.not_lt.mpr c3)
      refine go_blk (pc2 := 62) (L2 := [.ref 12, .int (nI p), .int (nI q), .int (nI r1), .int (dt (A 13) (A 14) (A 15) p q r1), .int 1, .int (1 * (dt (A 13) (A 14) (A 15) p q r1)), .null, .null, .null, .null]) (st2 := [.int (nI r1), .int (nI q), .int (nI p), .ref 15, .ref 14, .ref 16, .int 1]) (M2 := (A, G, PF)) (hs2 := []) (C := True) [(.iconst 1, 0, 0), (.istore 5, 0, 0), (.iload 5, 0, 0), (.iload 4, 0, 0), (.imul, 0, 0), (.istore 6, 0, 0), (.iload 5, 0, 0), (.aload_n 0, 0, 0), (.getfield 21, 3, 3), (.aload_n 0, 0, 0), (.getfield 15, 3, 1), (.aload_n 0, 0, 0), (.getfield 18, 3, 2), (.iload_n 1, 0, 0), (.iload_n 2, 0, 0), (.iload_n 3, 0, 0)] [] (by decide +kernel) rfl trivial ?_
      refine go_call (Y2 := mX3_determinant) (n2 := 27) (st := [.int 1]) [] [.ref 16, .ref 14, .ref 15, .int (nI p), .int (nI q), .int (nI r1)] ck_3_62 cwX3_determinant rfl (by decide +kernel) rfl (fun _ => rfl) (fun h => absurd rfl h) (Nat.le_of_ble_eq_true rfl) (Or.inl rfl) (fun _ _ _ h => h) (s_X3_determinant_16_14_15 l A G p q r1 hp hq hr) (fun v M2 hp4 => ?_)
      obtain ⟨rfl, rfl⟩ := hp4
      show Go l ro0 mX3_meet 27 (A, G, PF) 65 [.ref 12, .int (nI p), .int (nI q), .int (nI r1), .int (dt (A 13) (A 14) (A 15) p q r1), .int 1, .int (1 * (dt (A 13) (A 14) (A 15) p q r1)), .null, .null, .null, .null] [.int (dt (A 16) (A 14) (A 15) p q r1), .int 1] 27 _
      refine go_blk (pc2 := 85) (L2 := [.ref 12, .int (nI p), .int (nI q), .int (nI r1), .int (dt (A 13) (A 14) (A 15) p q r1), .int 1, .int (1 * (dt (A 13) (A 14) (A 15) p q r1)), .int (1 * (dt (A 16) (A 14) (A 15) p q r1)), .null, .null, .null]) (st2 := [.int (nI r1), .int (nI q), .int (nI p), .ref 15, .ref 16, .ref 13, .int 1]) (M2 := (A, G, PF)) (hs2 := []) (C := True) [(.imul, 0, 0), (.istore 7, 0, 0), (.iload 5, 0, 0), (.aload_n 0, 0, 0), (.getfield 11, 3, 0), (.aload_n 0, 0, 0), (.getfield 21, 3, 3), (.aload_n 0, 0, 0), (.getfield 18, 3, 2), (.iload_n 1, 0, 0), (.iload_n 2, 0, 0), (.iload_n 3, 0, 0)] [] (by decide +kernel) rfl trivial ?_
      refine go_call (Y2 := mX3_determinant) (n2 := 27) (st := [.int 1]) [] [.ref 13, .ref 16, .ref 15, .int (nI p), .int (nI q), .int (nI r1)] ck_3_62 cwX3_determinant rfl (by decide +kernel) rfl (fun _ => rfl) (fun h => absurd rfl h) (Nat.le_of_ble_eq_true rfl) (Or.inl rfl) (fun _ _ _ h => h) (s_X3_determinant_13_16_15 l A G p q r1 hp hq hr) (fun v M2 hp5 => ?_)
      obtain ⟨rfl, rfl⟩ := hp5
      show Go l ro0 mX3_meet 27 (A, G, PF) 88 [.ref 12, .int (nI p), .int (nI q), .int (nI r1), .int (dt (A 13) (A 14) (A 15) p q r1), .int 1, .int (1 * (dt (A 13) (A 14) (A 15) p q r1)), .int (1 * (dt (A 16) (A 14) (A 15) p q r1)), .null, .null, .null] [.int (dt (A 13) (A 16) (A 15) p q r1), .int 1] 27 _
      refine go_blk (pc2 := 108) (L2 := [.ref 12, .int (nI p), .int (nI q), .int (nI r1), .int (dt (A 13) (A 14) (A 15) p q r1), .int 1, .int (1 * (dt (A 13) (A 14) (A 15) p q r1)), .int (1 * (dt (A 16) (A 14) (A 15) p q r1)), .int (1 * (dt (A 13) (A 16) (A 15) p q r1)), .null, .null]) (st2 := [.int (nI r1), .int (nI q), .int (nI p), .ref 16, .ref 14, .ref 13, .int 1]) (M2 := (A, G, PF)) (hs2 := []) (C := True) [(.imul, 0, 0), (.istore 8, 0, 0), (.iload 5, 0, 0), (.aload_n 0, 0, 0), (.getfield 11, 3, 0), (.aload_n 0, 0, 0), (.getfield 15, 3, 1), (.aload_n 0, 0, 0), (.getfield 21, 3, 3), (.iload_n 1, 0, 0), (.iload_n 2, 0, 0), (.iload_n 3, 0, 0)] [] (by decide +kernel) rfl trivial ?_
      refine go_call (Y2 := mX3_determinant) (n2 := 27) (st := [.int 1]) [] [.ref 13, .ref 14, .ref 16, .int (nI p), .int (nI q), .int (nI r1)] ck_3_62 cwX3_determinant rfl (by decide +kernel) rfl (fun _ => rfl) (fun h => absurd rfl h) (Nat.le_of_ble_eq_true rfl) (Or.inl rfl) (fun _ _ _ h => h) (s_X3_determinant_13_14_16 l A G p q r1 hp hq hr) (fun v M2 hp6 => ?_)
      obtain ⟨rfl, rfl⟩ := hp6
      show Go l ro0 mX3_meet 27 (A, G, PF) 111 [.ref 12, .int (nI p), .int (nI q), .int (nI r1), .int (dt (A 13) (A 14) (A 15) p q r1), .int 1, .int (1 * (dt (A 13) (A 14) (A 15) p q r1)), .int (1 * (dt (A 16) (A 14) (A 15) p q r1)), .int (1 * (dt (A 13) (A 16) (A 15) p q r1)), .null, .null] [.int (dt (A 13) (A 14) (A 16) p q r1), .int 1] 27 _
      refine go_blk (pc2 := 125) (L2 := [.ref 12, .int (nI p), .int (nI q), .int (nI r1), .int (dt (A 13) (A 14) (A 15) p q r1), .int 1, .int (1 * (dt (A 13) (A 14) (A 15) p q r1)), .int (1 * (dt (A 16) (A 14) (A 15) p q r1)), .int (1 * (dt (A 13) (A 16) (A 15) p q r1)), .int (1 * (dt (A 13) (A 14) (A 16) p q r1)), .int (20 * (1 * (dt (A 13) (A 14) (A 15) p q r1)))]) (st2 := [.int (20 * (1 * (dt (A 13) (A 14) (A 15) p q r1))), .int (1 * (dt (A 16) (A 14) (A 15) p q r1))]) (M2 := (A, G, PF)) (hs2 := []) (C := True) [(.imul, 0, 0), (.istore 9, 0, 0), (.bipush 20, 0, 0), (.iload 6, 0, 0), (.imul, 0, 0), (.istore 10, 0, 0), (.iload 7, 0, 0), (.iload 10, 0, 0)] [] (by decide +kernel) rfl trivial ?_
      refine go_call (Y2 := mX5_isWithin) (n2 := 27) (st := []) [] [.int (1 * (dt (A 16) (A 14) (A 15) p q r1)), .int (20 * (1 * (dt (A 13) (A 14) (A 15) p q r1)))] ck_3_66 cwX5_isWithin rfl (by decide +kernel) rfl (fun _ => rfl) (fun h => absurd rfl h) (Nat.le_of_ble_eq_true rfl) (Or.inl rfl) (fun _ _ _ h => h) (s_X5_isWithin l A G (1 * (dt (A 16) (A 14) (A 15) p q r1)) (20 * (1 * (dt (A 13) (A 14) (A 15) p q r1)))) (fun v M2 hp7 => ?_)
      obtain ⟨rfl, rfl⟩ := hp7
      rcases Classical.em (-(20 * (1 * (dt (A 13) (A 14) (A 15) p q r1))) ≤ (1 * (dt (A 16) (A 14) (A 15) p q r1)) ∧ (1 * (dt (A 16) (A 14) (A 15) p q r1)) ≤ (20 * (1 * (dt (A 13) (A 14) (A 15) p q r1)))) with hb8 | hb8
      · rw [bi_t hb8]
        show Go l ro0 mX3_meet 27 (A, G, PF) 128 [.ref 12, .int (nI p), .int (nI q), .int (nI r1), .int (dt (A 13) (A 14) (A 15) p q r1), .int 1, .int (1 * (dt (A 13) (A 14) (A 15) p q r1)), .int (1 * (dt (A 16) (A 14) (A 15) p q r1)), .int (1 * (dt (A 13) (A 16) (A 15) p q r1)), .int (1 * (dt (A 13) (A 14) (A 16) p q r1)), .int (20 * (1 * (dt (A 13) (A 14) (A 15) p q r1)))] [.int 1] 27 _
        refine go_ifz (cnd := .eq) (off := 35) 163 (by decide +kernel) (by decide) (fun (h : (1 : Int32) = 0) => absurd h (by decide)) (fun _ => ?_)
        refine go_blk (pc2 := 135) (L2 := [.ref 12, .int (nI p), .int (nI q), .int (nI r1), .int (dt (A 13) (A 14) (A 15) p q r1), .int 1, .int (1 * (dt (A 13) (A 14) (A 15) p q r1)), .int (1 * (dt (A 16) (A 14) (A 15) p q r1)), .int (1 * (dt (A 13) (A 16) (A 15) p q r1)), .int (1 * (dt (A 13) (A 14) (A 16) p q r1)), .int (20 * (1 * (dt (A 13) (A 14) (A 15) p q r1)))]) (st2 := [.int (20 * (1 * (dt (A 13) (A 14) (A 15) p q r1))), .int (1 * (dt (A 13) (A 16) (A 15) p q r1))]) (M2 := (A, G, PF)) (hs2 := []) (C := True) [(.iload 8, 0, 0), (.iload 10, 0, 0)] [] (by decide +kernel) rfl trivial ?_
        refine go_call (Y2 := mX5_isWithin) (n2 := 27) (st := []) [] [.int (1 * (dt (A 13) (A 16) (A 15) p q r1)), .int (20 * (1 * (dt (A 13) (A 14) (A 15) p q r1)))] ck_3_66 cwX5_isWithin rfl (by decide +kernel) rfl (fun _ => rfl) (fun h => absurd rfl h) (Nat.le_of_ble_eq_true rfl) (Or.inl rfl) (fun _ _ _ h => h) (s_X5_isWithin l A G (1 * (dt (A 13) (A 16) (A 15) p q r1)) (20 * (1 * (dt (A 13) (A 14) (A 15) p q r1)))) (fun v M2 hp9 => ?_)
        obtain ⟨rfl, rfl⟩ := hp9
        rcases Classical.em (-(20 * (1 * (dt (A 13) (A 14) (A 15) p q r1))) ≤ (1 * (dt (A 13) (A 16) (A 15) p q r1)) ∧ (1 * (dt (A 13) (A 16) (A 15) p q r1)) ≤ (20 * (1 * (dt (A 13) (A 14) (A 15) p q r1)))) with hb10 | hb10
        · rw [bi_t hb10]
          show Go l ro0 mX3_meet 27 (A, G, PF) 138 [.ref 12, .int (nI p), .int (nI q), .int (nI r1), .int (dt (A 13) (A 14) (A 15) p q r1), .int 1, .int (1 * (dt (A 13) (A 14) (A 15) p q r1)), .int (1 * (dt (A 16) (A 14) (A 15) p q r1)), .int (1 * (dt (A 13) (A 16) (A 15) p q r1)), .int (1 * (dt (A 13) (A 14) (A 16) p q r1)), .int (20 * (1 * (dt (A 13) (A 14) (A 15) p q r1)))] [.int 1] 27 _
          refine go_ifz (cnd := .eq) (off := 25) 163 (by decide +kernel) (by decide) (fun (h : (1 : Int32) = 0) => absurd h (by decide)) (fun _ => ?_)
          refine go_blk (pc2 := 145) (L2 := [.ref 12, .int (nI p), .int (nI q), .int (nI r1), .int (dt (A 13) (A 14) (A 15) p q r1), .int 1, .int (1 * (dt (A 13) (A 14) (A 15) p q r1)), .int (1 * (dt (A 16) (A 14) (A 15) p q r1)), .int (1 * (dt (A 13) (A 16) (A 15) p q r1)), .int (1 * (dt (A 13) (A 14) (A 16) p q r1)), .int (20 * (1 * (dt (A 13) (A 14) (A 15) p q r1)))]) (st2 := [.int (20 * (1 * (dt (A 13) (A 14) (A 15) p q r1))), .int (1 * (dt (A 13) (A 14) (A 16) p q r1))]) (M2 := (A, G, PF)) (hs2 := []) (C := True) [(.iload 9, 0, 0), (.iload 10, 0, 0)] [] (by decide +kernel) rfl trivial ?_
          refine go_call (Y2 := mX5_isWithin) (n2 := 27) (st := []) [] [.int (1 * (dt (A 13) (A 14) (A 16) p q r1)), .int (20 * (1 * (dt (A 13) (A 14) (A 15) p q r1)))] ck_3_66 cwX5_isWithin rfl (by decide +kernel) rfl (fun _ => rfl) (fun h => absurd rfl h) (Nat.le_of_ble_eq_true rfl) (Or.inl rfl) (fun _ _ _ h => h) (s_X5_isWithin l A G (1 * (dt (A 13) (A 14) (A 16) p q r1)) (20 * (1 * (dt (A 13) (A 14) (A 15) p q r1)))) (fun v M2 hp11 => ?_)
          obtain ⟨rfl, rfl⟩ := hp11
          rcases Classical.em (-(20 * (1 * (dt (A 13) (A 14) (A 15) p q r1))) ≤ (1 * (dt (A 13) (A 14) (A 16) p q r1)) ∧ (1 * (dt (A 13) (A 14) (A 16) p q r1)) ≤ (20 * (1 * (dt (A 13) (A 14) (A 15) p q r1)))) with hb12 | hb12
          · rw [bi_t hb12]
            show Go l ro0 mX3_meet 27 (A, G, PF) 148 [.ref 12, .int (nI p), .int (nI q), .int (nI r1), .int (dt (A 13) (A 14) (A 15) p q r1), .int 1, .int (1 * (dt (A 13) (A 14) (A 15) p q r1)), .int (1 * (dt (A 16) (A 14) (A 15) p q r1)), .int (1 * (dt (A 13) (A 16) (A 15) p q r1)), .int (1 * (dt (A 13) (A 14) (A 16) p q r1)), .int (20 * (1 * (dt (A 13) (A 14) (A 15) p q r1)))] [.int 1] 27 _
            refine go_ifz (cnd := .eq) (off := 15) 163 (by decide +kernel) (by decide) (fun (h : (1 : Int32) = 0) => absurd h (by decide)) (fun _ => ?_)
            refine go_blk (pc2 := 160) (L2 := [.ref 12, .int (nI p), .int (nI q), .int (nI r1), .int (dt (A 13) (A 14) (A 15) p q r1), .int 1, .int (1 * (dt (A 13) (A 14) (A 15) p q r1)), .int (1 * (dt (A 16) (A 14) (A 15) p q r1)), .int (1 * (dt (A 13) (A 16) (A 15) p q r1)), .int (1 * (dt (A 13) (A 14) (A 16) p q r1)), .int (20 * (1 * (dt (A 13) (A 14) (A 15) p q r1)))]) (st2 := [.int (1 * (dt (A 13) (A 14) (A 15) p q r1)), .int (1 * (dt (A 13) (A 14) (A 16) p q r1)), .int (1 * (dt (A 13) (A 16) (A 15) p q r1)), .int (1 * (dt (A 16) (A 14) (A 15) p q r1)), .ref 12]) (M2 := (A, G, PF)) (hs2 := []) (C := True) [(.aload_n 0, 0, 0), (.iload 7, 0, 0), (.iload 8, 0, 0), (.iload 9, 0, 0), (.iload 6, 0, 0)] [] (by decide +kernel) rfl trivial ?_
            refine go_call (Y2 := mX3_keep) (n2 := 27) (st := []) [.ref 12] [.int (1 * (dt (A 16) (A 14) (A 15) p q r1)), .int (1 * (dt (A 13) (A 16) (A 15) p q r1)), .int (1 * (dt (A 13) (A 14) (A 16) p q r1)), .int (1 * (dt (A 13) (A 14) (A 15) p q r1))] ck_3_70 cwX3_keep rfl (by decide +kernel) rfl (fun h => absurd h (by decide)) (fun _ => ⟨12, rfl, by decide, rfl⟩) (Nat.le_of_ble_eq_true rfl) (Or.inl rfl) (fun _ _ _ h => h) (s_X3_keep l A G (1 * (dt (A 16) (A 14) (A 15) p q r1)) (1 * (dt (A 13) (A 16) (A 15) p q r1)) (1 * (dt (A 13) (A 14) (A 16) p q r1)) (1 * (dt (A 13) (A 14) (A 15) p q r1)) cnt hc hlt) (fun v M2 hp13 => ?_)
            obtain ⟨rfl, rfl⟩ := hp13
            show Go l ro0 mX3_meet 27 ((kp A cnt (1 * (dt (A 16) (A 14) (A 15) p q r1)) (1 * (dt (A 13) (A 16) (A 15) p q r1)) (1 * (dt (A 13) (A 14) (A 16) p q r1)) (1 * (dt (A 13) (A 14) (A 15) p q r1))), G, PF) 163 [.ref 12, .int (nI p), .int (nI q), .int (nI r1), .int (dt (A 13) (A 14) (A 15) p q r1), .int 1, .int (1 * (dt (A 13) (A 14) (A 15) p q r1)), .int (1 * (dt (A 16) (A 14) (A 15) p q r1)), .int (1 * (dt (A 13) (A 16) (A 15) p q r1)), .int (1 * (dt (A 13) (A 14) (A 16) p q r1)), .int (20 * (1 * (dt (A 13) (A 14) (A 15) p q r1)))] [] 27 _
            exact go_retv (by decide +kernel) rfl (⟨rfl, Or.inl ⟨by unfold InB cx cy cz cw; rw [hsg]; exact ⟨by assumption, by assumption, by assumption, by assumption⟩, by unfold cx cy cz cw; rw [hsg]; rfl⟩⟩)
          · rw [bi_f hb12]
            show Go l ro0 mX3_meet 27 (A, G, PF) 148 [.ref 12, .int (nI p), .int (nI q), .int (nI r1), .int (dt (A 13) (A 14) (A 15) p q r1), .int 1, .int (1 * (dt (A 13) (A 14) (A 15) p q r1)), .int (1 * (dt (A 16) (A 14) (A 15) p q r1)), .int (1 * (dt (A 13) (A 16) (A 15) p q r1)), .int (1 * (dt (A 13) (A 14) (A 16) p q r1)), .int (20 * (1 * (dt (A 13) (A 14) (A 15) p q r1)))] [.int 0] 27 _
            refine go_ifz (cnd := .eq) (off := 15) 163 (by decide +kernel) (by decide) (fun _ => ?_) (fun (h : ¬ (0 : Int32) = 0) => absurd h (by decide))
            exact go_retv (by decide +kernel) rfl (⟨rfl, Or.inr ⟨by unfold InB cx cy cz cw; rw [hsg]; intro q; first | exact absurd q.2.1 (by assumption) | exact absurd q.2.2.1 (by assumption) | exact absurd q.2.2.2 (by assumption), rfl⟩⟩)
        · rw [bi_f hb10]
          show Go l ro0 mX3_meet 27 (A, G, PF) 138 [.ref 12, .int (nI p), .int (nI q), .int (nI r1), .int (dt (A 13) (A 14) (A 15) p q r1), .int 1, .int (1 * (dt (A 13) (A 14) (A 15) p q r1)), .int (1 * (dt (A 16) (A 14) (A 15) p q r1)), .int (1 * (dt (A 13) (A 16) (A 15) p q r1)), .int (1 * (dt (A 13) (A 14) (A 16) p q r1)), .int (20 * (1 * (dt (A 13) (A 14) (A 15) p q r1)))] [.int 0] 27 _
          refine go_ifz (cnd := .eq) (off := 25) 163 (by decide +kernel) (by decide) (fun _ => ?_) (fun (h : ¬ (0 : Int32) = 0) => absurd h (by decide))
          exact go_retv (by decide +kernel) rfl (⟨rfl, Or.inr ⟨by unfold InB cx cy cz cw; rw [hsg]; intro q; first | exact absurd q.2.1 (by assumption) | exact absurd q.2.2.1 (by assumption) | exact absurd q.2.2.2 (by assumption), rfl⟩⟩)
      · rw [bi_f hb8]
        show Go l ro0 mX3_meet 27 (A, G, PF) 128 [.ref 12, .int (nI p), .int (nI q), .int (nI r1), .int (dt (A 13) (A 14) (A 15) p q r1), .int 1, .int (1 * (dt (A 13) (A 14) (A 15) p q r1)), .int (1 * (dt (A 16) (A 14) (A 15) p q r1)), .int (1 * (dt (A 13) (A 16) (A 15) p q r1)), .int (1 * (dt (A 13) (A 14) (A 16) p q r1)), .int (20 * (1 * (dt (A 13) (A 14) (A 15) p q r1)))] [.int 0] 27 _
        refine go_ifz (cnd := .eq) (off := 35) 163 (by decide +kernel) (by decide) (fun _ => ?_) (fun (h : ¬ (0 : Int32) = 0) => absurd h (by decide))
        exact go_retv (by decide +kernel) rfl (⟨rfl, Or.inr ⟨by unfold InB cx cy cz cw; rw [hsg]; intro q; first | exact absurd q.2.1 (by assumption) | exact absurd q.2.2.1 (by assumption) | exact absurd q.2.2.2 (by assumption), rfl⟩⟩)
    · skip
      have hsg : sgn (D0 A p q r1) = (-1) := if_pos (Int32.not_le.mp c3)
      refine go_blk (pc2 := 32) (L2 := [.ref 12, .int (nI p), .int (nI q), .int (nI r1), .int (dt (A 13) (A 14) (A 15) p q r1), .null, .null, .null, .null, .null, .null]) (st2 := [.int (-1)]) (M2 := (A, G, PF)) (hs2 := []) (C := True) [(.iconst (-1), 0, 0)] [] (by decide +kernel) rfl trivial ?_
      refine go_goto (off := 4) 36 (by decide +kernel) (by decide) ?_
      refine go_blk (pc2 := 62) (L2 := [.ref 12, .int (nI p), .int (nI q), .int (nI r1), .int (dt (A 13) (A 14) (A 15) p q r1), .int (-1), .int ((-1) * (dt (A 13) (A 14) (A 15) p q r1)), .null, .null, .null, .null]) (st2 := [.int (nI r1), .int (nI q), .int (nI p), .ref 15, .ref 14, .ref 16, .int (-1)]) (M2 := (A, G, PF)) (hs2 := []) (C := True) [(.istore 5, 0, 0), (.iload 5, 0, 0), (.iload 4, 0, 0), (.imul, 0, 0), (.istore 6, 0, 0), (.iload 5, 0, 0), (.aload_n 0, 0, 0), (.getfield 21, 3, 3), (.aload_n 0, 0, 0), (.getfield 15, 3, 1), (.aload_n 0, 0, 0), (.getfield 18, 3, 2), (.iload_n 1, 0, 0), (.iload_n 2, 0, 0), (.iload_n 3, 0, 0)] [] (by decide +kernel) rfl trivial ?_
      refine go_call (Y2 := mX3_determinant) (n2 := 27) (st := [.int (-1)]) [] [.ref 16, .ref 14, .ref 15, .int (nI p), .int (nI q), .int (nI r1)] ck_3_62 cwX3_determinant rfl (by decide +kernel) rfl (fun _ => rfl) (fun h => absurd rfl h) (Nat.le_of_ble_eq_true rfl) (Or.inl rfl) (fun _ _ _ h => h) (s_X3_determinant_16_14_15 l A G p q r1 hp hq hr) (fun v M2 hp14 => ?_)
      obtain ⟨rfl, rfl⟩ := hp14
      show Go l ro0 mX3_meet 27 (A, G, PF) 65 [.ref 12, .int (nI p), .int (nI q), .int (nI r1), .int (dt (A 13) (A 14) (A 15) p q r1), .int (-1), .int ((-1) * (dt (A 13) (A 14) (A 15) p q r1)), .null, .null, .null, .null] [.int (dt (A 16) (A 14) (A 15) p q r1), .int (-1)] 27 _
      refine go_blk (pc2 := 85) (L2 := [.ref 12, .int (nI p), .int (nI q), .int (nI r1), .int (dt (A 13) (A 14) (A 15) p q r1), .int (-1), .int ((-1) * (dt (A 13) (A 14) (A 15) p q r1)), .int ((-1) * (dt (A 16) (A 14) (A 15) p q r1)), .null, .null, .null]) (st2 := [.int (nI r1), .int (nI q), .int (nI p), .ref 15, .ref 16, .ref 13, .int (-1)]) (M2 := (A, G, PF)) (hs2 := []) (C := True) [(.imul, 0, 0), (.istore 7, 0, 0), (.iload 5, 0, 0), (.aload_n 0, 0, 0), (.getfield 11, 3, 0), (.aload_n 0, 0, 0), (.getfield 21, 3, 3), (.aload_n 0, 0, 0), (.getfield 18, 3, 2), (.iload_n 1, 0, 0), (.iload_n 2, 0, 0), (.iload_n 3, 0, 0)] [] (by decide +kernel) rfl trivial ?_
      refine go_call (Y2 := mX3_determinant) (n2 := 27) (st := [.int (-1)]) [] [.ref 13, .ref 16, .ref 15, .int (nI p), .int (nI q), .int (nI r1)] ck_3_62 cwX3_determinant rfl (by decide +kernel) rfl (fun _ => rfl) (fun h => absurd rfl h) (Nat.le_of_ble_eq_true rfl) (Or.inl rfl) (fun _ _ _ h => h) (s_X3_determinant_13_16_15 l A G p q r1 hp hq hr) (fun v M2 hp15 => ?_)
      obtain ⟨rfl, rfl⟩ := hp15
      show Go l ro0 mX3_meet 27 (A, G, PF) 88 [.ref 12, .int (nI p), .int (nI q), .int (nI r1), .int (dt (A 13) (A 14) (A 15) p q r1), .int (-1), .int ((-1) * (dt (A 13) (A 14) (A 15) p q r1)), .int ((-1) * (dt (A 16) (A 14) (A 15) p q r1)), .null, .null, .null] [.int (dt (A 13) (A 16) (A 15) p q r1), .int (-1)] 27 _
      refine go_blk (pc2 := 108) (L2 := [.ref 12, .int (nI p), .int (nI q), .int (nI r1), .int (dt (A 13) (A 14) (A 15) p q r1), .int (-1), .int ((-1) * (dt (A 13) (A 14) (A 15) p q r1)), .int ((-1) * (dt (A 16) (A 14) (A 15) p q r1)), .int ((-1) * (dt (A 13) (A 16) (A 15) p q r1)), .null, .null]) (st2 := [.int (nI r1), .int (nI q), .int (nI p), .ref 16, .ref 14, .ref 13, .int (-1)]) (M2 := (A, G, PF)) (hs2 := []) (C := True) [(.imul, 0, 0), (.istore 8, 0, 0), (.iload 5, 0, 0), (.aload_n 0, 0, 0), (.getfield 11, 3, 0), (.aload_n 0, 0, 0), (.getfield 15, 3, 1), (.aload_n 0, 0, 0), (.getfield 21, 3, 3), (.iload_n 1, 0, 0), (.iload_n 2, 0, 0), (.iload_n 3, 0, 0)] [] (by decide +kernel) rfl trivial ?_
      refine go_call (Y2 := mX3_determinant) (n2 := 27) (st := [.int (-1)]) [] [.ref 13, .ref 14, .ref 16, .int (nI p), .int (nI q), .int (nI r1)] ck_3_62 cwX3_determinant rfl (by decide +kernel) rfl (fun _ => rfl) (fun h => absurd rfl h) (Nat.le_of_ble_eq_true rfl) (Or.inl rfl) (fun _ _ _ h => h) (s_X3_determinant_13_14_16 l A G p q r1 hp hq hr) (fun v M2 hp16 => ?_)
      obtain ⟨rfl, rfl⟩ := hp16
      show Go l ro0 mX3_meet 27 (A, G, PF) 111 [.ref 12, .int (nI p), .int (nI q), .int (nI r1), .int (dt (A 13) (A 14) (A 15) p q r1), .int (-1), .int ((-1) * (dt (A 13) (A 14) (A 15) p q r1)), .int ((-1) * (dt (A 16) (A 14) (A 15) p q r1)), .int ((-1) * (dt (A 13) (A 16) (A 15) p q r1)), .null, .null] [.int (dt (A 13) (A 14) (A 16) p q r1), .int (-1)] 27 _
      refine go_blk (pc2 := 125) (L2 := [.ref 12, .int (nI p), .int (nI q), .int (nI r1), .int (dt (A 13) (A 14) (A 15) p q r1), .int (-1), .int ((-1) * (dt (A 13) (A 14) (A 15) p q r1)), .int ((-1) * (dt (A 16) (A 14) (A 15) p q r1)), .int ((-1) * (dt (A 13) (A 16) (A 15) p q r1)), .int ((-1) * (dt (A 13) (A 14) (A 16) p q r1)), .int (20 * ((-1) * (dt (A 13) (A 14) (A 15) p q r1)))]) (st2 := [.int (20 * ((-1) * (dt (A 13) (A 14) (A 15) p q r1))), .int ((-1) * (dt (A 16) (A 14) (A 15) p q r1))]) (M2 := (A, G, PF)) (hs2 := []) (C := True) [(.imul, 0, 0), (.istore 9, 0, 0), (.bipush 20, 0, 0), (.iload 6, 0, 0), (.imul, 0, 0), (.istore 10, 0, 0), (.iload 7, 0, 0), (.iload 10, 0, 0)] [] (by decide +kernel) rfl trivial ?_
      refine go_call (Y2 := mX5_isWithin) (n2 := 27) (st := []) [] [.int ((-1) * (dt (A 16) (A 14) (A 15) p q r1)), .int (20 * ((-1) * (dt (A 13) (A 14) (A 15) p q r1)))] ck_3_66 cwX5_isWithin rfl (by decide +kernel) rfl (fun _ => rfl) (fun h => absurd rfl h) (Nat.le_of_ble_eq_true rfl) (Or.inl rfl) (fun _ _ _ h => h) (s_X5_isWithin l A G ((-1) * (dt (A 16) (A 14) (A 15) p q r1)) (20 * ((-1) * (dt (A 13) (A 14) (A 15) p q r1)))) (fun v M2 hp17 => ?_)
      obtain ⟨rfl, rfl⟩ := hp17
      rcases Classical.em (-(20 * ((-1) * (dt (A 13) (A 14) (A 15) p q r1))) ≤ ((-1) * (dt (A 16) (A 14) (A 15) p q r1)) ∧ ((-1) * (dt (A 16) (A 14) (A 15) p q r1)) ≤ (20 * ((-1) * (dt (A 13) (A 14) (A 15) p q r1)))) with hb18 | hb18
      · rw [bi_t hb18]
        show Go l ro0 mX3_meet 27 (A, G, PF) 128 [.ref 12, .int (nI p), .int (nI q), .int (nI r1), .int (dt (A 13) (A 14) (A 15) p q r1), .int (-1), .int ((-1) * (dt (A 13) (A 14) (A 15) p q r1)), .int ((-1) * (dt (A 16) (A 14) (A 15) p q r1)), .int ((-1) * (dt (A 13) (A 16) (A 15) p q r1)), .int ((-1) * (dt (A 13) (A 14) (A 16) p q r1)), .int (20 * ((-1) * (dt (A 13) (A 14) (A 15) p q r1)))] [.int 1] 27 _
        refine go_ifz (cnd := .eq) (off := 35) 163 (by decide +kernel) (by decide) (fun (h : (1 : Int32) = 0) => absurd h (by decide)) (fun _ => ?_)
        refine go_blk (pc2 := 135) (L2 := [.ref 12, .int (nI p), .int (nI q), .int (nI r1), .int (dt (A 13) (A 14) (A 15) p q r1), .int (-1), .int ((-1) * (dt (A 13) (A 14) (A 15) p q r1)), .int ((-1) * (dt (A 16) (A 14) (A 15) p q r1)), .int ((-1) * (dt (A 13) (A 16) (A 15) p q r1)), .int ((-1) * (dt (A 13) (A 14) (A 16) p q r1)), .int (20 * ((-1) * (dt (A 13) (A 14) (A 15) p q r1)))]) (st2 := [.int (20 * ((-1) * (dt (A 13) (A 14) (A 15) p q r1))), .int ((-1) * (dt (A 13) (A 16) (A 15) p q r1))]) (M2 := (A, G, PF)) (hs2 := []) (C := True) [(.iload 8, 0, 0), (.iload 10, 0, 0)] [] (by decide +kernel) rfl trivial ?_
        refine go_call (Y2 := mX5_isWithin) (n2 := 27) (st := []) [] [.int ((-1) * (dt (A 13) (A 16) (A 15) p q r1)), .int (20 * ((-1) * (dt (A 13) (A 14) (A 15) p q r1)))] ck_3_66 cwX5_isWithin rfl (by decide +kernel) rfl (fun _ => rfl) (fun h => absurd rfl h) (Nat.le_of_ble_eq_true rfl) (Or.inl rfl) (fun _ _ _ h => h) (s_X5_isWithin l A G ((-1) * (dt (A 13) (A 16) (A 15) p q r1)) (20 * ((-1) * (dt (A 13) (A 14) (A 15) p q r1)))) (fun v M2 hp19 => ?_)
        obtain ⟨rfl, rfl⟩ := hp19
        rcases Classical.em (-(20 * ((-1) * (dt (A 13) (A 14) (A 15) p q r1))) ≤ ((-1) * (dt (A 13) (A 16) (A 15) p q r1)) ∧ ((-1) * (dt (A 13) (A 16) (A 15) p q r1)) ≤ (20 * ((-1) * (dt (A 13) (A 14) (A 15) p q r1)))) with hb20 | hb20
        · rw [bi_t hb20]
          show Go l ro0 mX3_meet 27 (A, G, PF) 138 [.ref 12, .int (nI p), .int (nI q), .int (nI r1), .int (dt (A 13) (A 14) (A 15) p q r1), .int (-1), .int ((-1) * (dt (A 13) (A 14) (A 15) p q r1)), .int ((-1) * (dt (A 16) (A 14) (A 15) p q r1)), .int ((-1) * (dt (A 13) (A 16) (A 15) p q r1)), .int ((-1) * (dt (A 13) (A 14) (A 16) p q r1)), .int (20 * ((-1) * (dt (A 13) (A 14) (A 15) p q r1)))] [.int 1] 27 _
          refine go_ifz (cnd := .eq) (off := 25) 163 (by decide +kernel) (by decide) (fun (h : (1 : Int32) = 0) => absurd h (by decide)) (fun _ => ?_)
          refine go_blk (pc2 := 145) (L2 := [.ref 12, .int (nI p), .int (nI q), .int (nI r1), .int (dt (A 13) (A 14) (A 15) p q r1), .int (-1), .int ((-1) * (dt (A 13) (A 14) (A 15) p q r1)), .int ((-1) * (dt (A 16) (A 14) (A 15) p q r1)), .int ((-1) * (dt (A 13) (A 16) (A 15) p q r1)), .int ((-1) * (dt (A 13) (A 14) (A 16) p q r1)), .int (20 * ((-1) * (dt (A 13) (A 14) (A 15) p q r1)))]) (st2 := [.int (20 * ((-1) * (dt (A 13) (A 14) (A 15) p q r1))), .int ((-1) * (dt (A 13) (A 14) (A 16) p q r1))]) (M2 := (A, G, PF)) (hs2 := []) (C := True) [(.iload 9, 0, 0), (.iload 10, 0, 0)] [] (by decide +kernel) rfl trivial ?_
          refine go_call (Y2 := mX5_isWithin) (n2 := 27) (st := []) [] [.int ((-1) * (dt (A 13) (A 14) (A 16) p q r1)), .int (20 * ((-1) * (dt (A 13) (A 14) (A 15) p q r1)))] ck_3_66 cwX5_isWithin rfl (by decide +kernel) rfl (fun _ => rfl) (fun h => absurd rfl h) (Nat.le_of_ble_eq_true rfl) (Or.inl rfl) (fun _ _ _ h => h) (s_X5_isWithin l A G ((-1) * (dt (A 13) (A 14) (A 16) p q r1)) (20 * ((-1) * (dt (A 13) (A 14) (A 15) p q r1)))) (fun v M2 hp21 => ?_)
          obtain ⟨rfl, rfl⟩ := hp21
          rcases Classical.em (-(20 * ((-1) * (dt (A 13) (A 14) (A 15) p q r1))) ≤ ((-1) * (dt (A 13) (A 14) (A 16) p q r1)) ∧ ((-1) * (dt (A 13) (A 14) (A 16) p q r1)) ≤ (20 * ((-1) * (dt (A 13) (A 14) (A 15) p q r1)))) with hb22 | hb22
          · rw [bi_t hb22]
            show Go l ro0 mX3_meet 27 (A, G, PF) 148 [.ref 12, .int (nI p), .int (nI q), .int (nI r1), .int (dt (A 13) (A 14) (A 15) p q r1), .int (-1), .int ((-1) * (dt (A 13) (A 14) (A 15) p q r1)), .int ((-1) * (dt (A 16) (A 14) (A 15) p q r1)), .int ((-1) * (dt (A 13) (A 16) (A 15) p q r1)), .int ((-1) * (dt (A 13) (A 14) (A 16) p q r1)), .int (20 * ((-1) * (dt (A 13) (A 14) (A 15) p q r1)))] [.int 1] 27 _
            refine go_ifz (cnd := .eq) (off := 15) 163 (by decide +kernel) (by decide) (fun (h : (1 : Int32) = 0) => absurd h (by decide)) (fun _ => ?_)
            refine go_blk (pc2 := 160) (L2 := [.ref 12, .int (nI p), .int (nI q), .int (nI r1), .int (dt (A 13) (A 14) (A 15) p q r1), .int (-1), .int ((-1) * (dt (A 13) (A 14) (A 15) p q r1)), .int ((-1) * (dt (A 16) (A 14) (A 15) p q r1)), .int ((-1) * (dt (A 13) (A 16) (A 15) p q r1)), .int ((-1) * (dt (A 13) (A 14) (A 16) p q r1)), .int (20 * ((-1) * (dt (A 13) (A 14) (A 15) p q r1)))]) (st2 := [.int ((-1) * (dt (A 13) (A 14) (A 15) p q r1)), .int ((-1) * (dt (A 13) (A 14) (A 16) p q r1)), .int ((-1) * (dt (A 13) (A 16) (A 15) p q r1)), .int ((-1) * (dt (A 16) (A 14) (A 15) p q r1)), .ref 12]) (M2 := (A, G, PF)) (hs2 := []) (C := True) [(.aload_n 0, 0, 0), (.iload 7, 0, 0), (.iload 8, 0, 0), (.iload 9, 0, 0), (.iload 6, 0, 0)] [] (by decide +kernel) rfl trivial ?_
            refine go_call (Y2 := mX3_keep) (n2 := 27) (st := []) [.ref 12] [.int ((-1) * (dt (A 16) (A 14) (A 15) p q r1)), .int ((-1) * (dt (A 13) (A 16) (A 15) p q r1)), .int ((-1) * (dt (A 13) (A 14) (A 16) p q r1)), .int ((-1) * (dt (A 13) (A 14) (A 15) p q r1))] ck_3_70 cwX3_keep rfl (by decide +kernel) rfl (fun h => absurd h (by decide)) (fun _ => ⟨12, rfl, by decide, rfl⟩) (Nat.le_of_ble_eq_true rfl) (Or.inl rfl) (fun _ _ _ h => h) (s_X3_keep l A G ((-1) * (dt (A 16) (A 14) (A 15) p q r1)) ((-1) * (dt (A 13) (A 16) (A 15) p q r1)) ((-1) * (dt (A 13) (A 14) (A 16) p q r1)) ((-1) * (dt (A 13) (A 14) (A 15) p q r1)) cnt hc hlt) (fun v M2 hp23 => ?_)
            obtain ⟨rfl, rfl⟩ := hp23
            show Go l ro0 mX3_meet 27 ((kp A cnt ((-1) * (dt (A 16) (A 14) (A 15) p q r1)) ((-1) * (dt (A 13) (A 16) (A 15) p q r1)) ((-1) * (dt (A 13) (A 14) (A 16) p q r1)) ((-1) * (dt (A 13) (A 14) (A 15) p q r1))), G, PF) 163 [.ref 12, .int (nI p), .int (nI q), .int (nI r1), .int (dt (A 13) (A 14) (A 15) p q r1), .int (-1), .int ((-1) * (dt (A 13) (A 14) (A 15) p q r1)), .int ((-1) * (dt (A 16) (A 14) (A 15) p q r1)), .int ((-1) * (dt (A 13) (A 16) (A 15) p q r1)), .int ((-1) * (dt (A 13) (A 14) (A 16) p q r1)), .int (20 * ((-1) * (dt (A 13) (A 14) (A 15) p q r1)))] [] 27 _
            exact go_retv (by decide +kernel) rfl (⟨rfl, Or.inl ⟨by unfold InB cx cy cz cw; rw [hsg]; exact ⟨by assumption, by assumption, by assumption, by assumption⟩, by unfold cx cy cz cw; rw [hsg]; rfl⟩⟩)
          · rw [bi_f hb22]
            show Go l ro0 mX3_meet 27 (A, G, PF) 148 [.ref 12, .int (nI p), .int (nI q), .int (nI r1), .int (dt (A 13) (A 14) (A 15) p q r1), .int (-1), .int ((-1) * (dt (A 13) (A 14) (A 15) p q r1)), .int ((-1) * (dt (A 16) (A 14) (A 15) p q r1)), .int ((-1) * (dt (A 13) (A 16) (A 15) p q r1)), .int ((-1) * (dt (A 13) (A 14) (A 16) p q r1)), .int (20 * ((-1) * (dt (A 13) (A 14) (A 15) p q r1)))] [.int 0] 27 _
            refine go_ifz (cnd := .eq) (off := 15) 163 (by decide +kernel) (by decide) (fun _ => ?_) (fun (h : ¬ (0 : Int32) = 0) => absurd h (by decide))
            exact go_retv (by decide +kernel) rfl (⟨rfl, Or.inr ⟨by unfold InB cx cy cz cw; rw [hsg]; intro q; first | exact absurd q.2.1 (by assumption) | exact absurd q.2.2.1 (by assumption) | exact absurd q.2.2.2 (by assumption), rfl⟩⟩)
        · rw [bi_f hb20]
          show Go l ro0 mX3_meet 27 (A, G, PF) 138 [.ref 12, .int (nI p), .int (nI q), .int (nI r1), .int (dt (A 13) (A 14) (A 15) p q r1), .int (-1), .int ((-1) * (dt (A 13) (A 14) (A 15) p q r1)), .int ((-1) * (dt (A 16) (A 14) (A 15) p q r1)), .int ((-1) * (dt (A 13) (A 16) (A 15) p q r1)), .int ((-1) * (dt (A 13) (A 14) (A 16) p q r1)), .int (20 * ((-1) * (dt (A 13) (A 14) (A 15) p q r1)))] [.int 0] 27 _
          refine go_ifz (cnd := .eq) (off := 25) 163 (by decide +kernel) (by decide) (fun _ => ?_) (fun (h : ¬ (0 : Int32) = 0) => absurd h (by decide))
          exact go_retv (by decide +kernel) rfl (⟨rfl, Or.inr ⟨by unfold InB cx cy cz cw; rw [hsg]; intro q; first | exact absurd q.2.1 (by assumption) | exact absurd q.2.2.1 (by assumption) | exact absurd q.2.2.2 (by assumption), rfl⟩⟩)
      · rw [bi_f hb18]
        show Go l ro0 mX3_meet 27 (A, G, PF) 128 [.ref 12, .int (nI p), .int (nI q), .int (nI r1), .int (dt (A 13) (A 14) (A 15) p q r1), .int (-1), .int ((-1) * (dt (A 13) (A 14) (A 15) p q r1)), .int ((-1) * (dt (A 16) (A 14) (A 15) p q r1)), .int ((-1) * (dt (A 13) (A 16) (A 15) p q r1)), .int ((-1) * (dt (A 13) (A 14) (A 16) p q r1)), .int (20 * ((-1) * (dt (A 13) (A 14) (A 15) p q r1)))] [.int 0] 27 _
        refine go_ifz (cnd := .eq) (off := 35) 163 (by decide +kernel) (by decide) (fun _ => ?_) (fun (h : ¬ (0 : Int32) = 0) => absurd h (by decide))
        exact go_retv (by decide +kernel) rfl (⟨rfl, Or.inr ⟨by unfold InB cx cy cz cw; rw [hsg]; intro q; first | exact absurd q.2.1 (by assumption) | exact absurd q.2.2.1 (by assumption) | exact absurd q.2.2.2 (by assumption), rfl⟩⟩)
  · skip
    exact go_retv (by decide +kernel) rfl (⟨rfl, Or.inr ⟨fun q => q.1 (by assumption), rfl⟩⟩)
