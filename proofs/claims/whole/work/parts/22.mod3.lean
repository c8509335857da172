def fitM (A : Nat → Nat → Int32) (x pt : Int32) (n : Nat) : Prop := ((A 27 19 &&& x) &&& A 34 n) = 0 ∧ ((A 27 19 &&& (x ^^^ (-1))) &&& A 35 n) = 0 ∧ ((A 27 20 &&& x) &&& (A 34 n ||| A 35 n)) = 0 ∧ (pt &&& (A 36 n ^^^ (-1))) = 0
def vM (A : Nat → Nat → Int32) (a b c : Int32) (n : Nat) : Int64 := (((a.toInt64 * (A 33 (4 * n)).toInt64) + (b.toInt64 * (A 33 (4 * n + 1)).toInt64)) + (c.toInt64 * (A 33 (4 * n + 2)).toInt64))
def cmpM (A : Nat → Nat → Int32) (up dn : Int64) (a b c : Int32) (n : Nat) : Int32 := if vM A a b c n * dn < up * (A 33 (4 * n + 3)).toInt64 then -1 else if up * (A 33 (4 * n + 3)).toInt64 < vM A a b c n * dn then 1 else 0
theorem lg_ge2 {x y : Int64} : 0 ≤ lg_cmp x y ↔ ¬ x < y := (lg_cmp_ge x y).trans Int64.not_lt.symm
def gat (P : Nat → Prop) (f : Nat → Int32 → Int32) (z : Int32) : Nat → Int32 → Prop := fun _ _ => True
noncomputable def fold (P : Nat → Prop) (f : Nat → Int32 → Int32) (z : Int32) : Nat → Int32
  | 0 => z
  | k + 1 => @ite Int32 (P k) (Classical.propDecidable _) (f k (fold P f z k)) (fold P f z k)
theorem fold_t {P : Nat → Prop} {f : Nat → Int32 → Int32} {z : Int32} {k : Nat} (h : P k) : fold P f z (k + 1) = f k (fold P f z k) := if_pos h
theorem fold_f {P : Nat → Prop} {f : Nat → Int32 → Int32} {z : Int32} {k : Nat} (h : ¬ P k) : fold P f z (k + 1) = fold P f z k := if_neg h
/-- a corner that counts: it fits, and is at the bound if that is asked -/
def gM (A : Nat → Nat → Int32) (x pt bd : Int32) (up dn : Int64) (a b c : Int32) (n : Nat) : Prop := fitM A x pt n ∧ (bd = 0 ∨ cmpM A up dn a b c n = 0)
noncomputable def smf (A : Nat → Nat → Int32) (P : Nat → Prop) : Nat → Int32 := fold P (fun _ _ => 1) 0
noncomputable def stf (A : Nat → Nat → Int32) (x : Int32) (P : Nat → Prop) : Nat → Int32 := fold P (fun n v => v &&& (A 34 n ^^^ (-1))) (A 27 19 &&& (x ^^^ (-1)))
noncomputable def otf (A : Nat → Nat → Int32) (x : Int32) (P : Nat → Prop) : Nat → Int32 := fold P (fun n v => v &&& ((A 34 n ||| A 35 n) ^^^ (-1))) (A 27 20 &&& (x ^^^ (-1)))
noncomputable def apf (A : Nat → Nat → Int32) (pt : Int32) (P : Nat → Prop) : Nat → Int32 := fold P (fun n v => v &&& A 36 n) (7 &&& (pt ^^^ (-1)))
def OpM (A : Nat → Nat → Int32) (x pt bd : Int32) (up dn : Int64) (a b c : Int32) (cnt : Nat) : Prop := ¬ smf A (gM A x pt bd up dn a b c) cnt = 0 ∧ stf A x (gM A x pt bd up dn a b c) cnt = 0 ∧ otf A x (gM A x pt bd up dn a b c) cnt = 0 ∧ apf A pt (gM A x pt bd up dn a b c) cnt = 0
set_option maxRecDepth 100000 in
set_option maxHeartbeats 4000000 in
theorem s_X6_fits (l : Launch) (A : Nat → Nat → Int32) (G : Nat → Nat → Int64) (n : Nat) (hn : n < 364) (x pt : Int32) : Sem l mX6_fits [.ref 27, .int (nI n), .int x, .int pt] 39 (A, G, PF) 39 (pv (bi (fitM A x pt n)) (A, G, PF)) := by
  refine sem_of_go (by decide) rfl (by decide) (by decide) rfl (Nat.le_of_ble_eq_true rfl) ?_
  show Go l ro0 mX6_fits 39 (A, G, PF) 0 [.ref 27, .int (nI n), .int x, .int pt, .null, .null, .null] [] 39 (pv (bi (fitM A x pt n)) (A, G, PF))
  refine go_blk (pc2 := 35) (L2 := [.ref 27, .int (nI n), .int x, .int pt, .int ((A 27 19) &&& x), .int ((A 27 19) &&& (x ^^^ (-1))), .int ((A 27 20) &&& x)]) (st2 := [.int (((A 27 19) &&& x) &&& (A 34 n))]) (M2 := (A, G, PF)) (hs2 := []) (C := ((nI n) = nI n ∧ n < 400) ∧ True) [(.aload_n 0, 0, 0), (.getfield 114, 6, 19), (.iload_n 2, 0, 0), (.iand, 0, 0), (.istore 4, 0, 0), (.aload_n 0, 0, 0), (.getfield 114, 6, 19), (.iload_n 2, 0, 0), (.iconst (-1), 0, 0), (.ixor, 0, 0), (.iand, 0, 0), (.istore 5, 0, 0), (.aload_n 0, 0, 0), (.getfield 117, 6, 20), (.iload_n 2, 0, 0), (.iand, 0, 0), (.istore 6, 0, 0), (.iload 4, 0, 0), (.aload_n 0, 0, 0), (.getfield 28, 6, 10), (.iload_n 1, 0, 0), (.iaload, 0, 0), (.iand, 0, 0)] [n] (by decide +kernel) rfl ⟨⟨rfl, by omega⟩, trivial⟩ ?_
  refine go_ifz (cnd := .ne) (off := 51) 86 (by decide +kernel) (by decide) (fun (c1 : ¬ (((A 27 19) &&& x) &&& (A 34 n)) = 0) => ?_) (fun (c1 : (((A 27 19) &&& x) &&& (A 34 n)) = 0) => ?_)
  · skip
    refine go_blk (pc2 := 87) (L2 := [.ref 27, .int (nI n), .int x, .int pt, .int ((A 27 19) &&& x), .int ((A 27 19) &&& (x ^^^ (-1))), .int ((A 27 20) &&& x)]) (st2 := [.int 0]) (M2 := (A, G, PF)) (hs2 := []) (C := True) [(.iconst 0, 0, 0)] [] (by decide +kernel) rfl trivial ?_
    exact go_retz (by decide +kernel) rfl (Or.inl rfl) (pv0 (by rintro ⟨z1, z2, z3, z4⟩; contradiction))
  · skip
    refine go_blk (pc2 := 47) (L2 := [.ref 27, .int (nI n), .int x, .int pt, .int ((A 27 19) &&& x), .int ((A 27 19) &&& (x ^^^ (-1))), .int ((A 27 20) &&& x)]) (st2 := [.int (((A 27 19) &&& (x ^^^ (-1))) &&& (A 35 n))]) (M2 := (A, G, PF)) (hs2 := []) (C := ((nI n) = nI n ∧ n < 400) ∧ True) [(.iload 5, 0, 0), (.aload_n 0, 0, 0), (.getfield 31, 6, 11), (.iload_n 1, 0, 0), (.iaload, 0, 0), (.iand, 0, 0)] [n] (by decide +kernel) rfl ⟨⟨rfl, by omega⟩, trivial⟩ ?_
    refine go_ifz (cnd := .ne) (off := 39) 86 (by decide +kernel) (by decide) (fun (c2 : ¬ (((A 27 19) &&& (x ^^^ (-1))) &&& (A 35 n)) = 0) => ?_) (fun (c2 : (((A 27 19) &&& (x ^^^ (-1))) &&& (A 35 n)) = 0) => ?_)
    · skip
      refine go_blk (pc2 := 87) (L2 := [.ref 27, .int (nI n), .int x, .int pt, .int ((A 27 19) &&& x), .int ((A 27 19) &&& (x ^^^ (-1))), .int ((A 27 20) &&& x)]) (st2 := [.int 0]) (M2 := (A, G, PF)) (hs2 := []) (C := True) [(.iconst 0, 0, 0)] [] (by decide +kernel) rfl trivial ?_
      exact go_retz (by decide +kernel) rfl (Or.inl rfl) (pv0 (by rintro ⟨z1, z2, z3, z4⟩; contradiction))
    · skip
      refine go_blk (pc2 := 66) (L2 := [.ref 27, .int (nI n), .int x, .int pt, .int ((A 27 19) &&& x), .int ((A 27 19) &&& (x ^^^ (-1))), .int ((A 27 20) &&& x)]) (st2 := [.int (((A 27 20) &&& x) &&& ((A 34 n) ||| (A 35 n)))]) (M2 := (A, G, PF)) (hs2 := []) (C := ((nI n) = nI n ∧ n < 400) ∧ ((nI n) = nI n ∧ n < 400) ∧ True) [(.iload 6, 0, 0), (.aload_n 0, 0, 0), (.getfield 28, 6, 10), (.iload_n 1, 0, 0), (.iaload, 0, 0), (.aload_n 0, 0, 0), (.getfield 31, 6, 11), (.iload_n 1, 0, 0), (.iaload, 0, 0), (.ior, 0, 0), (.iand, 0, 0)] [n, n] (by decide +kernel) rfl ⟨⟨rfl, by omega⟩, ⟨rfl, by omega⟩, trivial⟩ ?_
      refine go_ifz (cnd := .ne) (off := 20) 86 (by decide +kernel) (by decide) (fun (c3 : ¬ (((A 27 20) &&& x) &&& ((A 34 n) ||| (A 35 n))) = 0) => ?_) (fun (c3 : (((A 27 20) &&& x) &&& ((A 34 n) ||| (A 35 n))) = 0) => ?_)
      · skip
        refine go_blk (pc2 := 87) (L2 := [.ref 27, .int (nI n), .int x, .int pt, .int ((A 27 19) &&& x), .int ((A 27 19) &&& (x ^^^ (-1))), .int ((A 27 20) &&& x)]) (st2 := [.int 0]) (M2 := (A, G, PF)) (hs2 := []) (C := True) [(.iconst 0, 0, 0)] [] (by decide +kernel) rfl trivial ?_
        exact go_retz (by decide +kernel) rfl (Or.inl rfl) (pv0 (by rintro ⟨z1, z2, z3, z4⟩; contradiction))
      · skip
        refine go_blk (pc2 := 79) (L2 := [.ref 27, .int (nI n), .int x, .int pt, .int ((A 27 19) &&& x), .int ((A 27 19) &&& (x ^^^ (-1))), .int ((A 27 20) &&& x)]) (st2 := [.int (pt &&& ((A 36 n) ^^^ (-1)))]) (M2 := (A, G, PF)) (hs2 := []) (C := ((nI n) = nI n ∧ n < 400) ∧ True) [(.iload_n 3, 0, 0), (.aload_n 0, 0, 0), (.getfield 34, 6, 12), (.iload_n 1, 0, 0), (.iaload, 0, 0), (.iconst (-1), 0, 0), (.ixor, 0, 0), (.iand, 0, 0)] [n] (by decide +kernel) rfl ⟨⟨rfl, by omega⟩, trivial⟩ ?_
        refine go_ifz (cnd := .ne) (off := 7) 86 (by decide +kernel) (by decide) (fun (c4 : ¬ (pt &&& ((A 36 n) ^^^ (-1))) = 0) => ?_) (fun (c4 : (pt &&& ((A 36 n) ^^^ (-1))) = 0) => ?_)
        · skip
          refine go_blk (pc2 := 87) (L2 := [.ref 27, .int (nI n), .int x, .int pt, .int ((A 27 19) &&& x), .int ((A 27 19) &&& (x ^^^ (-1))), .int ((A 27 20) &&& x)]) (st2 := [.int 0]) (M2 := (A, G, PF)) (hs2 := []) (C := True) [(.iconst 0, 0, 0)] [] (by decide +kernel) rfl trivial ?_
          exact go_retz (by decide +kernel) rfl (Or.inl rfl) (pv0 (by rintro ⟨z1, z2, z3, z4⟩; contradiction))
        · skip
          refine go_blk (pc2 := 83) (L2 := [.ref 27, .int (nI n), .int x, .int pt, .int ((A 27 19) &&& x), .int ((A 27 19) &&& (x ^^^ (-1))), .int ((A 27 20) &&& x)]) (st2 := [.int 1]) (M2 := (A, G, PF)) (hs2 := []) (C := True) [(.iconst 1, 0, 0)] [] (by decide +kernel) rfl trivial ?_
          refine go_goto (off := 4) 87 (by decide +kernel) (by decide) ?_
          exact go_retz (by decide +kernel) rfl (Or.inr rfl) (pv1 ⟨by assumption, by assumption, by assumption, by assumption⟩)
set_option maxRecDepth 100000 in
set_option maxHeartbeats 4000000 in
theorem s_X6_compare (l : Launch) (A : Nat → Nat → Int32) (G : Nat → Nat → Int64) (n : Nat) (hn : n < 364) (a b c : Int32) : Sem l mX6_compare [.ref 27, .int (nI n), .int a, .int b, .int c] 39 (A, G, PF) 39 (pv (cmpM A (G 27 16) (G 27 17) a b c n) (A, G, PF)) := by
  refine sem_of_go (by decide) rfl (by decide) (by decide) rfl (Nat.le_of_ble_eq_true rfl) ?_
  show Go l ro0 mX6_compare 39 (A, G, PF) 0 [.ref 27, .int (nI n), .int a, .int b, .int c, .null, .null, .null, .null, .null, .null] [] 39 (pv (cmpM A (G 27 16) (G 27 17) a b c n) (A, G, PF))
  refine go_blk (pc2 := 77) (L2 := [.ref 27, .int (nI n), .int a, .int b, .int c, .long (((a.toInt64 * ((A 33 (4 * n)).toInt64)) + (b.toInt64 * ((A 33 ((4 * n) + 1)).toInt64))) + (c.toInt64 * ((A 33 ((4 * n) + 2)).toInt64))), .null, .long ((((a.toInt64 * ((A 33 (4 * n)).toInt64)) + (b.toInt64 * ((A 33 ((4 * n) + 1)).toInt64))) + (c.toInt64 * ((A 33 ((4 * n) + 2)).toInt64))) * (G 27 17)), .null, .long ((G 27 16) * ((A 33 ((4 * n) + 3)).toInt64)), .null]) (st2 := [.int (lg_cmp ((((a.toInt64 * ((A 33 (4 * n)).toInt64)) + (b.toInt64 * ((A 33 ((4 * n) + 1)).toInt64))) + (c.toInt64 * ((A 33 ((4 * n) + 2)).toInt64))) * (G 27 17)) ((G 27 16) * ((A 33 ((4 * n) + 3)).toInt64)))]) (M2 := (A, G, PF)) (hs2 := []) (C := ((4 * (nI n)) = nI (4 * n) ∧ (4 * n) < 1600) ∧ (((4 * (nI n)) + 1) = nI ((4 * n) + 1) ∧ ((4 * n) + 1) < 1600) ∧ (((4 * (nI n)) + 2) = nI ((4 * n) + 2) ∧ ((4 * n) + 2) < 1600) ∧ (((4 * (nI n)) + 3) = nI ((4 * n) + 3) ∧ ((4 * n) + 3) < 1600) ∧ True) [(.iload_n 2, 0, 0), (.i2l, 0, 0), (.aload_n 0, 0, 0), (.getfield 25, 6, 9), (.iconst 4, 0, 0), (.iload_n 1, 0, 0), (.imul, 0, 0), (.iaload, 0, 0), (.i2l, 0, 0), (.lmul, 0, 0), (.iload_n 3, 0, 0), (.i2l, 0, 0), (.aload_n 0, 0, 0), (.getfield 25, 6, 9), (.iconst 4, 0, 0), (.iload_n 1, 0, 0), (.imul, 0, 0), (.iconst 1, 0, 0), (.iadd, 0, 0), (.iaload, 0, 0), (.i2l, 0, 0), (.lmul, 0, 0), (.ladd, 0, 0), (.iload 4, 0, 0), (.i2l, 0, 0), (.aload_n 0, 0, 0), (.getfield 25, 6, 9), (.iconst 4, 0, 0), (.iload_n 1, 0, 0), (.imul, 0, 0), (.iconst 2, 0, 0), (.iadd, 0, 0), (.iaload, 0, 0), (.i2l, 0, 0), (.lmul, 0, 0), (.ladd, 0, 0), (.lstore 5, 0, 0), (.lload 5, 0, 0), (.aload_n 0, 0, 0), (.getfield 139, 6, 17), (.lmul, 0, 0), (.lstore 7, 0, 0), (.aload_n 0, 0, 0), (.getfield 143, 6, 16), (.aload_n 0, 0, 0), (.getfield 25, 6, 9), (.iconst 4, 0, 0), (.iload_n 1, 0, 0), (.imul, 0, 0), (.iconst 3, 0, 0), (.iadd, 0, 0), (.iaload, 0, 0), (.i2l, 0, 0), (.lmul, 0, 0), (.lstore 9, 0, 0), (.lload 7, 0, 0), (.lload 9, 0, 0), (.lcmp, 0, 0)] [(4 * n), ((4 * n) + 1), ((4 * n) + 2), ((4 * n) + 3)] (by decide +kernel) rfl ⟨⟨(by first | rfl | (simp only [nI, Int32.ofNat_add, Int32.ofNat_mul]; done) | (simp only [nI, Int32.ofNat_add, Int32.ofNat_mul]; rfl)), by omega⟩, ⟨(by first | rfl | (simp only [nI, Int32.ofNat_add, Int32.ofNat_mul]; done) | (simp only [nI, Int32.ofNat_add, Int32.ofNat_mul]; rfl)), by omega⟩, ⟨(by first | rfl | (simp only [nI, Int32.ofNat_add, Int32.ofNat_mul]; done) | (simp only [nI, Int32.ofNat_add, Int32.ofNat_mul]; rfl)), by omega⟩, ⟨(by first | rfl | (simp only [nI, Int32.ofNat_add, Int32.ofNat_mul]; done) | (simp only [nI, Int32.ofNat_add, Int32.ofNat_mul]; rfl)), by omega⟩, trivial⟩ ?_
  refine go_ifz (cnd := .ge) (off := 7) 84 (by decide +kernel) (by decide) (fun (c1 : 0 ≤ (lg_cmp ((((a.toInt64 * ((A 33 (4 * n)).toInt64)) + (b.toInt64 * ((A 33 ((4 * n) + 1)).toInt64))) + (c.toInt64 * ((A 33 ((4 * n) + 2)).toInt64))) * (G 27 17)) ((G 27 16) * ((A 33 ((4 * n) + 3)).toInt64)))) => ?_) (fun (c1 : ¬ 0 ≤ (lg_cmp ((((a.toInt64 * ((A 33 (4 * n)).toInt64)) + (b.toInt64 * ((A 33 ((4 * n) + 1)).toInt64))) + (c.toInt64 * ((A 33 ((4 * n) + 2)).toInt64))) * (G 27 17)) ((G 27 16) * ((A 33 ((4 * n) + 3)).toInt64)))) => ?_)
  · skip
    replace c1 : ¬ (((((a.toInt64 * ((A 33 (4 * n)).toInt64)) + (b.toInt64 * ((A 33 ((4 * n) + 1)).toInt64))) + (c.toInt64 * ((A 33 ((4 * n) + 2)).toInt64))) * (G 27 17)) : Int64) < ((G 27 16) * ((A 33 ((4 * n) + 3)).toInt64)) := lg_ge2.mp c1
    refine go_blk (pc2 := 89) (L2 := [.ref 27, .int (nI n), .int a, .int b, .int c, .long (((a.toInt64 * ((A 33 (4 * n)).toInt64)) + (b.toInt64 * ((A 33 ((4 * n) + 1)).toInt64))) + (c.toInt64 * ((A 33 ((4 * n) + 2)).toInt64))), .null, .long ((((a.toInt64 * ((A 33 (4 * n)).toInt64)) + (b.toInt64 * ((A 33 ((4 * n) + 1)).toInt64))) + (c.toInt64 * ((A 33 ((4 * n) + 2)).toInt64))) * (G 27 17)), .null, .long ((G 27 16) * ((A 33 ((4 * n) + 3)).toInt64)), .null]) (st2 := [.int (lg_cmp ((((a.toInt64 * ((A 33 (4 * n)).toInt64)) + (b.toInt64 * ((A 33 ((4 * n) + 1)).toInt64))) + (c.toInt64 * ((A 33 ((4 * n) + 2)).toInt64))) * (G 27 17)) ((G 27 16) * ((A 33 ((4 * n) + 3)).toInt64)))]) (M2 := (A, G, PF)) (hs2 := []) (C := True) [(.lload 7, 0, 0), (.lload 9, 0, 0), (.lcmp, 0, 0)] [] (by decide +kernel) rfl trivial ?_
    refine go_ifz (cnd := .le) (off := 7) 96 (by decide +kernel) (by decide) (fun (c2 : (lg_cmp ((((a.toInt64 * ((A 33 (4 * n)).toInt64)) + (b.toInt64 * ((A 33 ((4 * n) + 1)).toInt64))) + (c.toInt64 * ((A 33 ((4 * n) + 2)).toInt64))) * (G 27 17)) ((G 27 16) * ((A 33 ((4 * n) + 3)).toInt64))) ≤ 0) => ?_) (fun (c2 : ¬ (lg_cmp ((((a.toInt64 * ((A 33 (4 * n)).toInt64)) + (b.toInt64 * ((A 33 ((4 * n) + 1)).toInt64))) + (c.toInt64 * ((A 33 ((4 * n) + 2)).toInt64))) * (G 27 17)) ((G 27 16) * ((A 33 ((4 * n) + 3)).toInt64))) ≤ 0) => ?_)
    · skip
      replace c2 : ¬ (((G 27 16) * ((A 33 ((4 * n) + 3)).toInt64)) : Int64) < ((((a.toInt64 * ((A 33 (4 * n)).toInt64)) + (b.toInt64 * ((A 33 ((4 * n) + 1)).toInt64))) + (c.toInt64 * ((A 33 ((4 * n) + 2)).toInt64))) * (G 27 17)) := lg_le2.mp c2
      refine go_blk (pc2 := 97) (L2 := [.ref 27, .int (nI n), .int a, .int b, .int c, .long (((a.toInt64 * ((A 33 (4 * n)).toInt64)) + (b.toInt64 * ((A 33 ((4 * n) + 1)).toInt64))) + (c.toInt64 * ((A 33 ((4 * n) + 2)).toInt64))), .null, .long ((((a.toInt64 * ((A 33 (4 * n)).toInt64)) + (b.toInt64 * ((A 33 ((4 * n) + 1)).toInt64))) + (c.toInt64 * ((A 33 ((4 * n) + 2)).toInt64))) * (G 27 17)), .null, .long ((G 27 16) * ((A 33 ((4 * n) + 3)).toInt64)), .null]) (st2 := [.int 0]) (M2 := (A, G, PF)) (hs2 := []) (C := True) [(.iconst 0, 0, 0)] [] (by decide +kernel) rfl trivial ?_
      exact go_reti (by decide +kernel) rfl (pve (by unfold cmpM vM; first | rw [if_pos (by assumption)] | rw [if_neg (by assumption), if_pos (by assumption)] | rw [if_neg (by assumption), if_neg (by assumption)]))
    · skip
      replace c2 : (((G 27 16) * ((A 33 ((4 * n) + 3)).toInt64)) : Int64) < ((((a.toInt64 * ((A 33 (4 * n)).toInt64)) + (b.toInt64 * ((A 33 ((4 * n) + 1)).toInt64))) + (c.toInt64 * ((A 33 ((4 * n) + 2)).toInt64))) * (G 27 17)) := Classical.byContradiction (fun zz => c2 (lg_le2.mpr zz))
      refine go_blk (pc2 := 93) (L2 := [.ref 27, .int (nI n), .int a, .int b, .int c, .long (((a.toInt64 * ((A 33 (4 * n)).toInt64)) + (b.toInt64 * ((A 33 ((4 * n) + 1)).toInt64))) + (c.toInt64 * ((A 33 ((4 * n) + 2)).toInt64))), .null, .long ((((a.toInt64 * ((A 33 (4 * n)).toInt64)) + (b.toInt64 * ((A 33 ((4 * n) + 1)).toInt64))) + (c.toInt64 * ((A 33 ((4 * n) + 2)).toInt64))) * (G 27 17)), .null, .long ((G 27 16) * ((A 33 ((4 * n) + 3)).toInt64)), .null]) (st2 := [.int 1]) (M2 := (A, G, PF)) (hs2 := []) (C := True) [(.iconst 1, 0, 0)] [] (by decide +kernel) rfl trivial ?_
      refine go_goto (off := 4) 97 (by decide +kernel) (by decide) ?_
      exact go_reti (by decide +kernel) rfl (pve (by unfold cmpM vM; first | rw [if_pos (by assumption)] | rw [if_neg (by assumption), if_pos (by assumption)] | rw [if_neg (by assumption), if_neg (by assumption)]))
  · skip
    replace c1 : (((((a.toInt64 * ((A 33 (4 * n)).toInt64)) + (b.toInt64 * ((A 33 ((4 * n) + 1)).toInt64))) + (c.toInt64 * ((A 33 ((4 * n) + 2)).toInt64))) * (G 27 17)) : Int64) < ((G 27 16) * ((A 33 ((4 * n) + 3)).toInt64)) := Classical.byContradiction (fun zz => c1 (lg_ge2.mpr zz))
    refine go_blk (pc2 := 81) (L2 := [.ref 27, .int (nI n), .int a, .int b, .int c, .long (((a.toInt64 * ((A 33 (4 * n)).toInt64)) + (b.toInt64 * ((A 33 ((4 * n) + 1)).toInt64))) + (c.toInt64 * ((A 33 ((4 * n) + 2)).toInt64))), .null, .long ((((a.toInt64 * ((A 33 (4 * n)).toInt64)) + (b.toInt64 * ((A 33 ((4 * n) + 1)).toInt64))) + (c.toInt64 * ((A 33 ((4 * n) + 2)).toInt64))) * (G 27 17)), .null, .long ((G 27 16) * ((A 33 ((4 * n) + 3)).toInt64)), .null]) (st2 := [.int (-1)]) (M2 := (A, G, PF)) (hs2 := []) (C := True) [(.iconst (-1), 0, 0)] [] (by decide +kernel) rfl trivial ?_
    refine go_goto (off := 16) 97 (by decide +kernel) (by decide) ?_
    exact go_reti (by decide +kernel) rfl (pve (by unfold cmpM vM; first | rw [if_pos (by assumption)] | rw [if_neg (by assumption), if_pos (by assumption)] | rw [if_neg (by assumption), if_neg (by assumption)]))
set_option maxRecDepth 100000 in
set_option maxHeartbeats 4000000 in
theorem lp_X6_open (l : Launch) (A : Nat → Nat → Int32) (G : Nat → Nat → Int64) (cnt : Nat) (hc : A 27 13 = nI cnt) (hc364 : cnt ≤ 364) (x pt bd a b c : Int32) : ∀ n, n ≤ cnt → Go l ro0 mX6_open 39 (A, G, PF) 52 [.ref 27, .int x, .int pt, .int bd, .int a, .int b, .int c, .int (stf A x (gM A x pt bd (G 27 16) (G 27 17) a b c) n), .int (otf A x (gM A x pt bd (G 27 16) (G 27 17) a b c) n), .int (apf A pt (gM A x pt bd (G 27 16) (G 27 17) a b c) n), .int (smf A (gM A x pt bd (G 27 16) (G 27 17) a b c) n), .int (nI n)] [] 39 (pv (bi (OpM A x pt bd (G 27 16) (G 27 17) a b c cnt)) (A, G, PF)) := by
  refine down cnt (fun n hk ih  => ?_)
  refine go_blk (pc2 := 58) (L2 := [.ref 27, .int x, .int pt, .int bd, .int a, .int b, .int c, .int (stf A x (gM A x pt bd (G 27 16) (G 27 17) a b c) n), .int (otf A x (gM A x pt bd (G 27 16) (G 27 17) a b c) n), .int (apf A pt (gM A x pt bd (G 27 16) (G 27 17) a b c) n), .int (smf A (gM A x pt bd (G 27 16) (G 27 17) a b c) n), .int (nI n)]) (st2 := [.int (A 27 13), .int (nI n)]) (M2 := (A, G, PF)) (hs2 := []) (C := True) [(.iload 11, 0, 0), (.aload_n 0, 0, 0), (.getfield 84, 6, 13)] [] (by decide +kernel) rfl trivial ?_
  refine go_cmp (cnd := .ge) (off := 93) 151 (by decide +kernel) (by decide) (fun (c1 : (A 27 13) ≤ (nI n)) => ?_) (fun (c1 : ¬ (A 27 13) ≤ (nI n)) => ?_)
  · skip
    replace c1 : cnt ≤ n := (nx_le (a := cnt) (b := n) hc rfl (by omega) (by omega)).mp c1
    refine go_blk (pc2 := 153) (L2 := [.ref 27, .int x, .int pt, .int bd, .int a, .int b, .int c, .int (stf A x (gM A x pt bd (G 27 16) (G 27 17) a b c) n), .int (otf A x (gM A x pt bd (G 27 16) (G 27 17) a b c) n), .int (apf A pt (gM A x pt bd (G 27 16) (G 27 17) a b c) n), .int (smf A (gM A x pt bd (G 27 16) (G 27 17) a b c) n), .int (nI n)]) (st2 := [.int (smf A (gM A x pt bd (G 27 16) (G 27 17) a b c) n)]) (M2 := (A, G, PF)) (hs2 := []) (C := True) [(.iload 10, 0, 0)] [] (by decide +kernel) rfl trivial ?_
    refine go_ifz (cnd := .eq) (off := 22) 175 (by decide +kernel) (by decide) (fun (c2 : (smf A (gM A x pt bd (G 27 16) (G 27 17) a b c) n) = 0) => ?_) (fun (c2 : ¬ (smf A (gM A x pt bd (G 27 16) (G 27 17) a b c) n) = 0) => ?_)
    · skip
      refine go_blk (pc2 := 176) (L2 := [.ref 27, .int x, .int pt, .int bd, .int a, .int b, .int c, .int (stf A x (gM A x pt bd (G 27 16) (G 27 17) a b c) n), .int (otf A x (gM A x pt bd (G 27 16) (G 27 17) a b c) n), .int (apf A pt (gM A x pt bd (G 27 16) (G 27 17) a b c) n), .int (smf A (gM A x pt bd (G 27 16) (G 27 17) a b c) n), .int (nI n)]) (st2 := [.int 0]) (M2 := (A, G, PF)) (hs2 := []) (C := True) [(.iconst 0, 0, 0)] [] (by decide +kernel) rfl trivial ?_
      exact go_retz (by decide +kernel) rfl (Or.inl rfl) (pv0 (by rw [show cnt = n by omega]; rintro ⟨z1, z2, z3, z4⟩; contradiction))
    · skip
      refine go_blk (pc2 := 158) (L2 := [.ref 27, .int x, .int pt, .int bd, .int a, .int b, .int c, .int (stf A x (gM A x pt bd (G 27 16) (G 27 17) a b c) n), .int (otf A x (gM A x pt bd (G 27 16) (G 27 17) a b c) n), .int (apf A pt (gM A x pt bd (G 27 16) (G 27 17) a b c) n), .int (smf A (gM A x pt bd (G 27 16) (G 27 17) a b c) n), .int (nI n)]) (st2 := [.int (stf A x (gM A x pt bd (G 27 16) (G 27 17) a b c) n)]) (M2 := (A, G, PF)) (hs2 := []) (C := True) [(.iload 7, 0, 0)] [] (by decide +kernel) rfl trivial ?_
      refine go_ifz (cnd := .ne) (off := 17) 175 (by decide +kernel) (by decide) (fun (c3 : ¬ (stf A x (gM A x pt bd (G 27 16) (G 27 17) a b c) n) = 0) => ?_) (fun (c3 : (stf A x (gM A x pt bd (G 27 16) (G 27 17) a b c) n) = 0) => ?_)
      · skip
        refine go_blk (pc2 := 176) (L2 := [.ref 27, .int x, .int pt, .int bd, .int a, .int b, .int c, .int (stf A x (gM A x pt bd (G 27 16) (G 27 17) a b c) n), .int (otf A x (gM A x pt bd (G 27 16) (G 27 17) a b c) n), .int (apf A pt (gM A x pt bd (G 27 16) (G 27 17) a b c) n), .int (smf A (gM A x pt bd (G 27 16) (G 27 17) a b c) n), .int (nI n)]) (st2 := [.int 0]) (M2 := (A, G, PF)) (hs2 := []) (C := True) [(.iconst 0, 0, 0)] [] (by decide +kernel) rfl trivial ?_
        exact go_retz (by decide +kernel) rfl (Or.inl rfl) (pv0 (by rw [show cnt = n by omega]; rintro ⟨z1, z2, z3, z4⟩; contradiction))
      · skip
        refine go_blk (pc2 := 163) (L2 := [.ref 27, .int x, .int pt, .int bd, .int a, .int b, .int c, .int (stf A x (gM A x pt bd (G 27 16) (G 27 17) a b c) n), .int (otf A x (gM A x pt bd (G 27 16) (G 27 17) a b c) n), .int (apf A pt (gM A x pt bd (G 27 16) (G 27 17) a b c) n), .int (smf A (gM A x pt bd (G 27 16) (G 27 17) a b c) n), .int (nI n)]) (st2 := [.int (otf A x (gM A x pt bd (G 27 16) (G 27 17) a b c) n)]) (M2 := (A, G, PF)) (hs2 := []) (C := True) [(.iload 8, 0, 0)] [] (by decide +kernel) rfl trivial ?_
        refine go_ifz (cnd := .ne) (off := 12) 175 (by decide +kernel) (by decide) (fun (c4 : ¬ (otf A x (gM A x pt bd (G 27 16) (G 27 17) a b c) n) = 0) => ?_) (fun (c4 : (otf A x (gM A x pt bd (G 27 16) (G 27 17) a b c) n) = 0) => ?_)
        · skip
          refine go_blk (pc2 := 176) (L2 := [.ref 27, .int x, .int pt, .int bd, .int a, .int b, .int c, .int (stf A x (gM A x pt bd (G 27 16) (G 27 17) a b c) n), .int (otf A x (gM A x pt bd (G 27 16) (G 27 17) a b c) n), .int (apf A pt (gM A x pt bd (G 27 16) (G 27 17) a b c) n), .int (smf A (gM A x pt bd (G 27 16) (G 27 17) a b c) n), .int (nI n)]) (st2 := [.int 0]) (M2 := (A, G, PF)) (hs2 := []) (C := True) [(.iconst 0, 0, 0)] [] (by decide +kernel) rfl trivial ?_
          exact go_retz (by decide +kernel) rfl (Or.inl rfl) (pv0 (by rw [show cnt = n by omega]; rintro ⟨z1, z2, z3, z4⟩; contradiction))
        · skip
          refine go_blk (pc2 := 168) (L2 := [.ref 27, .int x, .int pt, .int bd, .int a, .int b, .int c, .int (stf A x (gM A x pt bd (G 27 16) (G 27 17) a b c) n), .int (otf A x (gM A x pt bd (G 27 16) (G 27 17) a b c) n), .int (apf A pt (gM A x pt bd (G 27 16) (G 27 17) a b c) n), .int (smf A (gM A x pt bd (G 27 16) (G 27 17) a b c) n), .int (nI n)]) (st2 := [.int (apf A pt (gM A x pt bd (G 27 16) (G 27 17) a b c) n)]) (M2 := (A, G, PF)) (hs2 := []) (C := True) [(.iload 9, 0, 0)] [] (by decide +kernel) rfl trivial ?_
          refine go_ifz (cnd := .ne) (off := 7) 175 (by decide +kernel) (by decide) (fun (c5 : ¬ (apf A pt (gM A x pt bd (G 27 16) (G 27 17) a b c) n) = 0) => ?_) (fun (c5 : (apf A pt (gM A x pt bd (G 27 16) (G 27 17) a b c) n) = 0) => ?_)
          · skip
            refine go_blk (pc2 := 176) (L2 := [.ref 27, .int x, .int pt, .int bd, .int a, .int b, .int c, .int (stf A x (gM A x pt bd (G 27 16) (G 27 17) a b c) n), .int (otf A x (gM A x pt bd (G 27 16) (G 27 17) a b c) n), .int (apf A pt (gM A x pt bd (G 27 16) (G 27 17) a b c) n), .int (smf A (gM A x pt bd (G 27 16) (G 27 17) a b c) n), .int (nI n)]) (st2 := [.int 0]) (M2 := (A, G, PF)) (hs2 := []) (C := True) [(.iconst 0, 0, 0)] [] (by decide +kernel) rfl trivial ?_
            exact go_retz (by decide +kernel) rfl (Or.inl rfl) (pv0 (by rw [show cnt = n by omega]; rintro ⟨z1, z2, z3, z4⟩; contradiction))
          · skip
            refine go_blk (pc2 := 172) (L2 := [.ref 27, .int x, .int pt, .int bd, .int a, .int b, .int c, .int (stf A x (gM A x pt bd (G 27 16) (G 27 17) a b c) n), .int (otf A x (gM A x pt bd (G 27 16) (G 27 17) a b c) n), .int (apf A pt (gM A x pt bd (G 27 16) (G 27 17) a b c) n), .int (smf A (gM A x pt bd (G 27 16) (G 27 17) a b c) n), .int (nI n)]) (st2 := [.int 1]) (M2 := (A, G, PF)) (hs2 := []) (C := True) [(.iconst 1, 0, 0)] [] (by decide +kernel) rfl trivial ?_
            refine go_goto (off := 4) 176 (by decide +kernel) (by decide) ?_
            exact go_retz (by decide +kernel) rfl (Or.inr rfl) (pv1 (by rw [show cnt = n by omega]; exact ⟨by assumption, by assumption, by assumption, by assumption⟩))
  · skip
    replace c1 : ¬ cnt ≤ n := fun zz => c1 ((nx_le (a := cnt) (b := n) hc rfl (by omega) (by omega)).mpr zz)
    refine go_blk (pc2 := 66) (L2 := [.ref 27, .int x, .int pt, .int bd, .int a, .int b, .int c, .int (stf A x (gM A x pt bd (G 27 16) (G 27 17) a b c) n), .int (otf A x (gM A x pt bd (G 27 16) (G 27 17) a b c) n), .int (apf A pt (gM A x pt bd (G 27 16) (G 27 17) a b c) n), .int (smf A (gM A x pt bd (G 27 16) (G 27 17) a b c) n), .int (nI n)]) (st2 := [.int pt, .int x, .int (nI n), .ref 27]) (M2 := (A, G, PF)) (hs2 := []) (C := True) [(.aload_n 0, 0, 0), (.iload 11, 0, 0), (.iload_n 1, 0, 0), (.iload_n 2, 0, 0)] [] (by decide +kernel) rfl trivial ?_
    refine go_call (Y2 := mX6_fits) (n2 := 39) (st := []) [.ref 27] [.int (nI n), .int x, .int pt] ck_6_120 cwX6_fits rfl (by decide +kernel) rfl (fun h => absurd h (by decide)) (fun _ => ⟨27, rfl, by decide, rfl⟩) (Nat.le_of_ble_eq_true rfl) (Or.inl rfl) (fun _ _ _ h => h) (s_X6_fits l A G n (by omega) x pt) (fun v M2 hp6 => ?_)
    obtain ⟨rfl, rfl⟩ := hp6
    rcases Classical.em (fitM A x pt n) with hb7 | hb7
    · rw [bi_t hb7]
      show Go l ro0 mX6_open 39 (A, G, PF) 69 [.ref 27, .int x, .int pt, .int bd, .int a, .int b, .int c, .int (stf A x (gM A x pt bd (G 27 16) (G 27 17) a b c) n), .int (otf A x (gM A x pt bd (G 27 16) (G 27 17) a b c) n), .int (apf A pt (gM A x pt bd (G 27 16) (G 27 17) a b c) n), .int (smf A (gM A x pt bd (G 27 16) (G 27 17) a b c) n), .int (nI n)] [.int 1] 39 _
      refine go_ifz (cnd := .eq) (off := 76) 145 (by decide +kernel) (by decide) (fun (h : (1 : Int32) = 0) => absurd h (by decide)) (fun _ => ?_)
      refine go_blk (pc2 := 73) (L2 := [.ref 27, .int x, .int pt, .int bd, .int a, .int b, .int c, .int (stf A x (gM A x pt bd (G 27 16) (G 27 17) a b c) n), .int (otf A x (gM A x pt bd (G 27 16) (G 27 17) a b c) n), .int (apf A pt (gM A x pt bd (G 27 16) (G 27 17) a b c) n), .int (smf A (gM A x pt bd (G 27 16) (G 27 17) a b c) n), .int (nI n)]) (st2 := [.int bd]) (M2 := (A, G, PF)) (hs2 := []) (C := True) [(.iload_n 3, 0, 0)] [] (by decide +kernel) rfl trivial ?_
      refine go_ifz (cnd := .eq) (off := 21) 94 (by decide +kernel) (by decide) (fun (c8 : bd = 0) => ?_) (fun (c8 : ¬ bd = 0) => ?_)
      · skip
        refine go_blk (pc2 := 148) (L2 := [.ref 27, .int x, .int pt, .int bd, .int a, .int b, .int c, .int ((stf A x (gM A x pt bd (G 27 16) (G 27 17) a b c) n) &&& ((A 34 n) ^^^ (-1))), .int ((otf A x (gM A x pt bd (G 27 16) (G 27 17) a b c) n) &&& (((A 34 n) ||| (A 35 n)) ^^^ (-1))), .int ((apf A pt (gM A x pt bd (G 27 16) (G 27 17) a b c) n) &&& (A 36 n)), .int 1, .int ((nI n) + 1)]) (st2 := []) (M2 := (A, G, PF)) (hs2 := []) (C := ((nI n) = nI n ∧ n < 400) ∧ ((nI n) = nI n ∧ n < 400) ∧ ((nI n) = nI n ∧ n < 400) ∧ ((nI n) = nI n ∧ n < 400) ∧ True) [(.iconst 1, 0, 0), (.istore 10, 0, 0), (.iload 7, 0, 0), (.aload_n 0, 0, 0), (.getfield 28, 6, 10), (.iload 11, 0, 0), (.iaload, 0, 0), (.iconst (-1), 0, 0), (.ixor, 0, 0), (.iand, 0, 0), (.istore 7, 0, 0), (.iload 8, 0, 0), (.aload_n 0, 0, 0), (.getfield 28, 6, 10), (.iload 11, 0, 0), (.iaload, 0, 0), (.aload_n 0, 0, 0), (.getfield 31, 6, 11), (.iload 11, 0, 0), (.iaload, 0, 0), (.ior, 0, 0), (.iconst (-1), 0, 0), (.ixor, 0, 0), (.iand, 0, 0), (.istore 8, 0, 0), (.iload 9, 0, 0), (.aload_n 0, 0, 0), (.getfield 34, 6, 12), (.iload 11, 0, 0), (.iaload, 0, 0), (.iand, 0, 0), (.istore 9, 0, 0), (.iinc 11 1, 0, 0)] [n, n, n, n] (by decide +kernel) rfl ⟨⟨rfl, by omega⟩, ⟨rfl, by omega⟩, ⟨rfl, by omega⟩, ⟨rfl, by omega⟩, trivial⟩ ?_
        refine go_goto (off := -96) 52 (by decide +kernel) (by decide) ?_
        have hg : (gM A x pt bd (G 27 16) (G 27 17) a b c) n := ⟨by assumption, by first | exact Or.inl (by assumption) | exact Or.inr (by assumption)⟩
        exact go_as (ih (by omega)) rfl (by unfold smf stf otf apf; rw [fold_t hg, fold_t hg, fold_t hg, fold_t hg, nI_1]) rfl
      · skip
        refine go_blk (pc2 := 85) (L2 := [.ref 27, .int x, .int pt, .int bd, .int a, .int b, .int c, .int (stf A x (gM A x pt bd (G 27 16) (G 27 17) a b c) n), .int (otf A x (gM A x pt bd (G 27 16) (G 27 17) a b c) n), .int (apf A pt (gM A x pt bd (G 27 16) (G 27 17) a b c) n), .int (smf A (gM A x pt bd (G 27 16) (G 27 17) a b c) n), .int (nI n)]) (st2 := [.int c, .int b, .int a, .int (nI n), .ref 27]) (M2 := (A, G, PF)) (hs2 := []) (C := True) [(.aload_n 0, 0, 0), (.iload 11, 0, 0), (.iload 4, 0, 0), (.iload 5, 0, 0), (.iload 6, 0, 0)] [] (by decide +kernel) rfl trivial ?_
        refine go_call (Y2 := mX6_compare) (n2 := 39) (st := []) [.ref 27] [.int (nI n), .int a, .int b, .int c] ck_6_123 cwX6_compare rfl (by decide +kernel) rfl (fun h => absurd h (by decide)) (fun _ => ⟨27, rfl, by decide, rfl⟩) (Nat.le_of_ble_eq_true rfl) (Or.inl rfl) (fun _ _ _ h => h) (s_X6_compare l A G n (by omega) a b c) (fun v M2 hp9 => ?_)
        obtain ⟨rfl, rfl⟩ := hp9
        show Go l ro0 mX6_open 39 (A, G, PF) 88 [.ref 27, .int x, .int pt, .int bd, .int a, .int b, .int c, .int (stf A x (gM A x pt bd (G 27 16) (G 27 17) a b c) n), .int (otf A x (gM A x pt bd (G 27 16) (G 27 17) a b c) n), .int (apf A pt (gM A x pt bd (G 27 16) (G 27 17) a b c) n), .int (smf A (gM A x pt bd (G 27 16) (G 27 17) a b c) n), .int (nI n)] [.int (cmpM A (G 27 16) (G 27 17) a b c n)] 39 _
        refine go_ifz (cnd := .eq) (off := 6) 94 (by decide +kernel) (by decide) (fun (c10 : (cmpM A (G 27 16) (G 27 17) a b c n) = 0) => ?_) (fun (c10 : ¬ (cmpM A (G 27 16) (G 27 17) a b c n) = 0) => ?_)
        · skip
          refine go_blk (pc2 := 148) (L2 := [.ref 27, .int x, .int pt, .int bd, .int a, .int b, .int c, .int ((stf A x (gM A x pt bd (G 27 16) (G 27 17) a b c) n) &&& ((A 34 n) ^^^ (-1))), .int ((otf A x (gM A x pt bd (G 27 16) (G 27 17) a b c) n) &&& (((A 34 n) ||| (A 35 n)) ^^^ (-1))), .int ((apf A pt (gM A x pt bd (G 27 16) (G 27 17) a b c) n) &&& (A 36 n)), .int 1, .int ((nI n) + 1)]) (st2 := []) (M2 := (A, G, PF)) (hs2 := []) (C := ((nI n) = nI n ∧ n < 400) ∧ ((nI n) = nI n ∧ n < 400) ∧ ((nI n) = nI n ∧ n < 400) ∧ ((nI n) = nI n ∧ n < 400) ∧ True) [(.iconst 1, 0, 0), (.istore 10, 0, 0), (.iload 7, 0, 0), (.aload_n 0, 0, 0), (.getfield 28, 6, 10), (.iload 11, 0, 0), (.iaload, 0, 0), (.iconst (-1), 0, 0), (.ixor, 0, 0), (.iand, 0, 0), (.istore 7, 0, 0), (.iload 8, 0, 0), (.aload_n 0, 0, 0), (.getfield 28, 6, 10), (.iload 11, 0, 0), (.iaload, 0, 0), (.aload_n 0, 0, 0), (.getfield 31, 6, 11), (.iload 11, 0, 0), (.iaload, 0, 0), (.ior, 0, 0), (.iconst (-1), 0, 0), (.ixor, 0, 0), (.iand, 0, 0), (.istore 8, 0, 0), (.iload 9, 0, 0), (.aload_n 0, 0, 0), (.getfield 34, 6, 12), (.iload 11, 0, 0), (.iaload, 0, 0), (.iand, 0, 0), (.istore 9, 0, 0), (.iinc 11 1, 0, 0)] [n, n, n, n] (by decide +kernel) rfl ⟨⟨rfl, by omega⟩, ⟨rfl, by omega⟩, ⟨rfl, by omega⟩, ⟨rfl, by omega⟩, trivial⟩ ?_
          refine go_goto (off := -96) 52 (by decide +kernel) (by decide) ?_
          have hg : (gM A x pt bd (G 27 16) (G 27 17) a b c) n := ⟨by assumption, by first | exact Or.inl (by assumption) | exact Or.inr (by assumption)⟩
          exact go_as (ih (by omega)) rfl (by unfold smf stf otf apf; rw [fold_t hg, fold_t hg, fold_t hg, fold_t hg, nI_1]) rfl
        · skip
          refine go_goto (off := 54) 145 (by decide +kernel) (by decide) ?_
          refine go_blk (pc2 := 148) (L2 := [.ref 27, .int x, .int pt, .int bd, .int a, .int b, .int c, .int (stf A x (gM A x pt bd (G 27 16) (G 27 17) a b c) n), .int (otf A x (gM A x pt bd (G 27 16) (G 27 17) a b c) n), .int (apf A pt (gM A x pt bd (G 27 16) (G 27 17) a b c) n), .int (smf A (gM A x pt bd (G 27 16) (G 27 17) a b c) n), .int ((nI n) + 1)]) (st2 := []) (M2 := (A, G, PF)) (hs2 := []) (C := True) [(.iinc 11 1, 0, 0)] [] (by decide +kernel) rfl trivial ?_
          refine go_goto (off := -96) 52 (by decide +kernel) (by decide) ?_
          have hg : ¬ (gM A x pt bd (G 27 16) (G 27 17) a b c) n := by rintro ⟨z1, z2⟩; first | contradiction | (rcases z2 with z2 | z2 <;> contradiction)
          exact go_as (ih (by omega)) rfl (by unfold smf stf otf apf; rw [fold_f hg, fold_f hg, fold_f hg, fold_f hg, nI_1]) rfl
    · rw [bi_f hb7]
      show Go l ro0 mX6_open 39 (A, G, PF) 69 [.ref 27, .int x, .int pt, .int bd, .int a, .int b, .int c, .int (stf A x (gM A x pt bd (G 27 16) (G 27 17) a b c) n), .int (otf A x (gM A x pt bd (G 27 16) (G 27 17) a b c) n), .int (apf A pt (gM A x pt bd (G 27 16) (G 27 17) a b c) n), .int (smf A (gM A x pt bd (G 27 16) (G 27 17) a b c) n), .int (nI n)] [.int 0] 39 _
      refine go_ifz (cnd := .eq) (off := 76) 145 (by decide +kernel) (by decide) (fun _ => ?_) (fun (h : ¬ (0 : Int32) = 0) => absurd h (by decide))
      refine go_blk (pc2 := 148) (L2 := [.ref 27, .int x, .int pt, .int bd, .int a, .int b, .int c, .int (stf A x (gM A x pt bd (G 27 16) (G 27 17) a b c) n), .int (otf A x (gM A x pt bd (G 27 16) (G 27 17) a b c) n), .int (apf A pt (gM A x pt bd (G 27 16) (G 27 17) a b c) n), .int (smf A (gM A x pt bd (G 27 16) (G 27 17) a b c) n), .int ((nI n) + 1)]) (st2 := []) (M2 := (A, G, PF)) (hs2 := []) (C := True) [(.iinc 11 1, 0, 0)] [] (by decide +kernel) rfl trivial ?_
      refine go_goto (off := -96) 52 (by decide +kernel) (by decide) ?_
      have hg : ¬ (gM A x pt bd (G 27 16) (G 27 17) a b c) n := by rintro ⟨z1, z2⟩; first | contradiction | (rcases z2 with z2 | z2 <;> contradiction)
      exact go_as (ih (by omega)) rfl (by unfold smf stf otf apf; rw [fold_f hg, fold_f hg, fold_f hg, fold_f hg, nI_1]) rfl
theorem okf_c {A A2 : Nat → Nat → Int32} (h : A2 28 = A 28) (w : Int32) (k : Nat) : okf A2 w k = okf A w k := by
  induction k with
  | zero => rfl
  | succ k ih => simp only [okf, h, ih]
set_option maxRecDepth 100000 in
set_option maxHeartbeats 4000000 in
theorem s_X6_open (l : Launch) (A : Nat → Nat → Int32) (G : Nat → Nat → Int64) (cnt : Nat) (hc : A 27 13 = nI cnt) (hc364 : cnt ≤ 364) (x pt bd a b c : Int32) : Sem l mX6_open [.ref 27, .int x, .int pt, .int bd, .int a, .int b, .int c] 39 (A, G, PF) 39 (pv (bi (OpM (u2 (u2 A 27 19 (okf A 1 5)) 27 20 (okf A 2 5)) x pt bd (G 27 16) (G 27 17) a b c cnt)) ((u2 (u2 A 27 19 (okf A 1 5)) 27 20 (okf A 2 5)), G, PF)) := by
  refine sem_of_go (by decide) rfl (by decide) (by decide) rfl (Nat.le_of_ble_eq_true rfl) ?_
  show Go l ro0 mX6_open 39 (A, G, PF) 0 [.ref 27, .int x, .int pt, .int bd, .int a, .int b, .int c, .null, .null, .null, .null, .null] [] 39 (pv (bi (OpM (u2 (u2 A 27 19 (okf A 1 5)) 27 20 (okf A 2 5)) x pt bd (G 27 16) (G 27 17) a b c cnt)) ((u2 (u2 A 27 19 (okf A 1 5)) 27 20 (okf A 2 5)), G, PF))
  refine go_blk (pc2 := 3) (L2 := [.ref 27, .int x, .int pt, .int bd, .int a, .int b, .int c, .null, .null, .null, .null, .null]) (st2 := [.int 1, .ref 27, .ref 27]) (M2 := (A, G, PF)) (hs2 := []) (C := True) [(.aload_n 0, 0, 0), (.aload_n 0, 0, 0), (.iconst 1, 0, 0)] [] (by decide +kernel) rfl trivial ?_
  refine go_call (Y2 := mX6_ofKind) (n2 := 39) (st := [.ref 27]) [.ref 27] [.int 1] ck_6_87 cwX6_ofKind rfl (by decide +kernel) rfl (fun h => absurd h (by decide)) (fun _ => ⟨27, rfl, by decide, rfl⟩) (Nat.le_of_ble_eq_true rfl) (Or.inl rfl) (fun _ _ _ h => h) (s_X6_ofKind l A G 1) (fun v M2 hp1 => ?_)
  obtain ⟨rfl, rfl⟩ := hp1
  show Go l ro0 mX6_open 39 (A, G, PF) 6 [.ref 27, .int x, .int pt, .int bd, .int a, .int b, .int c, .null, .null, .null, .null, .null] [.int (okf A 1 5), .ref 27] 39 _
  refine go_blk (pc2 := 12) (L2 := [.ref 27, .int x, .int pt, .int bd, .int a, .int b, .int c, .null, .null, .null, .null, .null]) (st2 := [.int 2, .ref 27, .ref 27]) (M2 := ((u2 A 27 19 (okf A 1 5)), G, PF)) (hs2 := []) (C := True) [(.putfield 114, 6, 19), (.aload_n 0, 0, 0), (.aload_n 0, 0, 0), (.iconst 2, 0, 0)] [] (by decide +kernel) rfl trivial ?_
  refine go_call (Y2 := mX6_ofKind) (n2 := 39) (st := [.ref 27]) [.ref 27] [.int 2] ck_6_87 cwX6_ofKind rfl (by decide +kernel) rfl (fun h => absurd h (by decide)) (fun _ => ⟨27, rfl, by decide, rfl⟩) (Nat.le_of_ble_eq_true rfl) (Or.inl rfl) (fun _ _ _ h => h) (s_X6_ofKind l (u2 A 27 19 (okf A 1 5)) G 2) (fun v M2 hp2 => ?_)
  obtain ⟨rfl, rfl⟩ := hp2
  rw [okf_c (A := A) rfl]
  show Go l ro0 mX6_open 39 ((u2 A 27 19 (okf A 1 5)), G, PF) 15 [.ref 27, .int x, .int pt, .int bd, .int a, .int b, .int c, .null, .null, .null, .null, .null] [.int (okf A 2 5), .ref 27] 39 _
  refine go_blk (pc2 := 52) (L2 := [.ref 27, .int x, .int pt, .int bd, .int a, .int b, .int c, .int ((okf A 1 5) &&& (x ^^^ (-1))), .int ((okf A 2 5) &&& (x ^^^ (-1))), .int (7 &&& (pt ^^^ (-1))), .int 0, .int 0]) (st2 := []) (M2 := ((u2 (u2 A 27 19 (okf A 1 5)) 27 20 (okf A 2 5)), G, PF)) (hs2 := []) (C := True) [(.putfield 117, 6, 20), (.aload_n 0, 0, 0), (.getfield 114, 6, 19), (.iload_n 1, 0, 0), (.iconst (-1), 0, 0), (.ixor, 0, 0), (.iand, 0, 0), (.istore 7, 0, 0), (.aload_n 0, 0, 0), (.getfield 117, 6, 20), (.iload_n 1, 0, 0), (.iconst (-1), 0, 0), (.ixor, 0, 0), (.iand, 0, 0), (.istore 8, 0, 0), (.bipush 7, 0, 0), (.iload_n 2, 0, 0), (.iconst (-1), 0, 0), (.ixor, 0, 0), (.iand, 0, 0), (.istore 9, 0, 0), (.iconst 0, 0, 0), (.istore 10, 0, 0), (.iconst 0, 0, 0), (.istore 11, 0, 0)] [] (by decide +kernel) rfl trivial ?_
  exact lp_X6_open l (u2 (u2 A 27 19 (okf A 1 5)) 27 20 (okf A 2 5)) G cnt hc hc364 x pt bd a b c 0 (by omega)
def MAt (B A : Nat → Nat → Int32) (n i j k : Nat) : Prop := A 33 (4 * n) = mx B i j k ∧ A 33 (4 * n + 1) = my B i j k ∧ A 33 (4 * n + 2) = mz B i j k ∧ A 33 (4 * n + 3) = mw B i j k ∧ A 36 n = alk (mx B i j k) (my B i j k) (mz B i j k) ∧ A 34 n = abv B (mx B i j k) (my B i j k) (mz B i j k) (mw B i j k) 5 ∧ A 35 n = blw B (mx B i j k) (my B i j k) (mz B i j k) (mw B i j k) 5
def MI (T : Nat → Nat → Nat → Prop) (B A : Nat → Nat → Int32) (cnt : Nat) : Prop :=
  (∀ o, (o < 33 ∨ 36 < o) → o ≠ 27 → A o = B o) ∧ (∀ k, k ≠ 13 → A 27 k = B 27 k) ∧ A 27 13 = nI cnt ∧ (∀ i j k, T i j k → InM B i j k → ∃ n, n < cnt ∧ MAt B A n i j k) ∧ ∀ n, n < cnt → ∃ i j k, T i j k ∧ InM B i j k ∧ MAt B A n i j k
theorem MI.congr {T T2 : Nat → Nat → Nat → Prop} {B A : Nat → Nat → Int32} {cnt : Nat} (h : MI T B A cnt) (hT : ∀ p q r, T p q r ↔ T2 p q r) : MI T2 B A cnt :=
  ⟨h.1, h.2.1, h.2.2.1, fun p q r ht => h.2.2.2.1 p q r ((hT p q r).mpr ht), fun n hn => by
    obtain ⟨p, q, r, h1, h2⟩ := h.2.2.2.2 n hn
    exact ⟨p, q, r, (hT p q r).mp h1, h2⟩⟩
theorem abv_c {A A2 : Nat → Nat → Int32} (h28 : A2 28 = A 28) (h29 : A2 29 = A 29) (x y z w : Int32) (m : Nat) : ovm A2 x y z w m = ovm A x y z w m ∧ abv A2 x y z w m = abv A x y z w m ∧ blw A2 x y z w m = blw A x y z w m := by
  have hL : ∀ m, Lin A2 m = Lin A m := fun m => by unfold Lin; rw [h28]
  have ho : ∀ m, ovm A2 x y z w m = ovm A x y z w m := fun m => by
    rcases Classical.em (Lin A m) with q | q
    · rw [ovm_t q, ovm_t (by rw [hL]; exact q), h29]
    · rw [ovm_f q, ovm_f (by rw [hL]; exact q)]
  refine ⟨ho m, ?_, ?_⟩
  · induction m with
    | zero => rfl
    | succ m ih => simp only [abv, ho m, ih]
  · induction m with
    | zero => rfl
    | succ m ih => simp only [blw, ho m, ih]
theorem MI.rows {T : Nat → Nat → Nat → Prop} {B A : Nat → Nat → Int32} {cnt : Nat} (h : MI T B A cnt) (i j k : Nat) : (mx A i j k = mx B i j k ∧ my A i j k = my B i j k ∧ mz A i j k = mz B i j k ∧ mw A i j k = mw B i j k) ∧ (InM A i j k ↔ InM B i j k) := by
  have h32 := h.1 32 (by omega) (by omega)
  have e : ∀ u v w, mdt A i j k u v w = mdt B i j k u v w := fun u v w => by unfold mdt; rw [h32]
  have e0 : mD A i j k = mD B i j k := e 0 1 2
  have e1 : mx A i j k = mx B i j k := by unfold mx; rw [e0, e]
  have e2 : my A i j k = my B i j k := by unfold my; rw [e0, e]
  have e3 : mz A i j k = mz B i j k := by unfold mz; rw [e0, e]
  have e4 : mw A i j k = mw B i j k := by unfold mw; rw [e0]
  exact ⟨⟨e1, e2, e3, e4⟩, by unfold InM; rw [e0, e1, e2, e3, e4]⟩
theorem MI.add {T : Nat → Nat → Nat → Prop} {B A A2 : Nat → Nat → Int32} {cnt i j k : Nat} (h : MI T B A cnt) (hi : InM A i j k) (hk : MKi A A2 cnt (mx A i j k) (my A i j k) (mz A i j k) (mw A i j k) 5) : MI (fun i2 j2 k2 => T i2 j2 k2 ∨ (i2 = i ∧ j2 = j ∧ k2 = k)) B A2 (cnt + 1) := by
  obtain ⟨⟨e1, e2, e3, e4⟩, ei⟩ := h.rows i j k
  obtain ⟨f, g13, g1, g2, g3, g4, g5, g6, g7⟩ := hk
  have hab := abv_c (A := B) (A2 := A) (h.1 28 (by omega) (by omega)) (h.1 29 (by omega) (by omega)) (mx B i j k) (my B i j k) (mz B i j k) (mw B i j k) 5
  have hnew : MAt B A2 cnt i j k := by
    rw [e1, e2, e3] at g5
    rw [e1, e2, e3, e4] at g6 g7
    exact ⟨by rw [g1, e1], by rw [g2, e2], by rw [g3, e3], by rw [g4, e4], g5, by rw [g6, hab.2.1], by rw [g7, hab.2.2]⟩
  have hold : ∀ n i2 j2 k2, n < cnt → MAt B A n i2 j2 k2 → MAt B A2 n i2 j2 k2 := by
    intro n i2 j2 k2 hn hat
    obtain ⟨a1, a2, a3, a4, a5, a6, a7⟩ := hat
    refine ⟨?_, ?_, ?_, ?_, ?_, ?_, ?_⟩
    · rw [f 33 _ (by omega) (by omega) (by omega)]; exact a1
    · rw [f 33 _ (by omega) (by omega) (by omega)]; exact a2
    · rw [f 33 _ (by omega) (by omega) (by omega)]; exact a3
    · rw [f 33 _ (by omega) (by omega) (by omega)]; exact a4
    · rw [f 36 _ (by omega) (by omega) (by omega)]; exact a5
    · rw [f 34 _ (by omega) (by omega) (by omega)]; exact a6
    · rw [f 35 _ (by omega) (by omega) (by omega)]; exact a7
  refine ⟨fun o ho ho2 => ?_, fun k2 hk2 => ?_, g13, fun i2 j2 k2 ht hin => ?_, fun n hn => ?_⟩
  · funext k2
    rw [f o k2 (by omega) (by omega) (by omega), h.1 o ho ho2]
  · rw [f 27 k2 (by omega) (by omega) (by omega), h.2.1 k2 hk2]
  · rcases ht with ht | ⟨rfl, rfl, rfl⟩
    · obtain ⟨n, h1, h2⟩ := h.2.2.2.1 i2 j2 k2 ht hin
      exact ⟨n, by omega, hold n i2 j2 k2 h1 h2⟩
    · exact ⟨cnt, by omega, hnew⟩
  · by_cases e : n = cnt
    · subst e
      exact ⟨i, j, k, Or.inr ⟨rfl, rfl, rfl⟩, ei.mp hi, hnew⟩
    · obtain ⟨i2, j2, k2, h1, h2, h3⟩ := h.2.2.2.2 n (by omega)
      exact ⟨i2, j2, k2, Or.inl h1, h2, hold n i2 j2 k2 (by omega) h3⟩
theorem MI.skip {T : Nat → Nat → Nat → Prop} {B A : Nat → Nat → Int32} {cnt i j k : Nat} (h : MI T B A cnt) (hi : ¬ InM A i j k) : MI (fun i2 j2 k2 => T i2 j2 k2 ∨ (i2 = i ∧ j2 = j ∧ k2 = k)) B A cnt := by
  refine ⟨h.1, h.2.1, h.2.2.1, fun i2 j2 k2 ht hin => ?_, fun n hn => ?_⟩
  · rcases ht with ht | ⟨rfl, rfl, rfl⟩
    · exact h.2.2.2.1 i2 j2 k2 ht hin
    · exact absurd ((h.rows i2 j2 k2).2.mpr hin) hi
  · obtain ⟨i2, j2, k2, h1, h2⟩ := h.2.2.2.2 n hn
    exact ⟨i2, j2, k2, Or.inl h1, h2⟩
/-- the triples ahead of i, j, k, the greatest first -/
def GT3 (i j k : Nat) : Nat → Nat → Nat → Prop := fun i2 j2 k2 => (k2 < j2 ∧ j2 < i2) ∧ (i2 < i ∨ i2 = i ∧ (j2 < j ∨ j2 = j ∧ k2 < k))
theorem tet_mono {a b : Nat} (h : a ≤ b) : tet a ≤ tet b := by
  induction b with
  | zero => rw [show a = 0 by omega]; exact Nat.le_refl _
  | succ b ih =>
    by_cases e : a = b + 1
    · rw [e]; exact Nat.le_refl _
    · exact Nat.le_trans (ih (by omega)) (Nat.le_add_right _ _)
set_option maxRecDepth 100000 in
set_option maxHeartbeats 4000000 in
theorem lp_X6_meetAll (l : Launch) (A : Nat → Nat → Int32) (G : Nat → Nat → Int64) (B0 : Nat → Nat → Int32) (i j : Nat) (hi : i < 14) (hj : j < i) : ∀ k, k ≤ j → ∀ A2 cnt, MI (GT3 i j k) B0 A2 cnt → cnt ≤ tet i + tri j + k → Go l ro0 mX6_meetAll 39 (A2, G, PF) 2 [.ref 27, .int (nI i), .int (nI j), .int (nI k)] [] 39 (fun r M2 => r = none ∧ ∃ A2 cnt2, M2 = (A2, G, PF) ∧ MI (GT3 i (j + 1) 0) B0 A2 cnt2 ∧ cnt2 ≤ tet i + tri (j + 1)) := by
  have hb13 : tet i + tri j + j ≤ 364 := by
    have h1 : ∀ i, i < 14 → ∀ j, j < i → tet i + tri j + j ≤ 364 := by decide +kernel
    exact h1 i hi j hj
  refine down j (fun k hk ih A2 cnt hM hb => ?_)
  refine go_blk (pc2 := 4) (L2 := [.ref 27, .int (nI i), .int (nI j), .int (nI k)]) (st2 := [.int (nI j), .int (nI k)]) (M2 := (A2, G, PF)) (hs2 := []) (C := True) [(.iload_n 3, 0, 0), (.iload_n 2, 0, 0)] [] (by decide +kernel) rfl trivial ?_
  refine go_cmp (cnd := .ge) (off := 16) 20 (by decide +kernel) (by decide) (fun (c1 : (nI j) ≤ (nI k)) => ?_) (fun (c1 : ¬ (nI j) ≤ (nI k)) => ?_)
  · skip
    replace c1 : j ≤ k := (nx_le (a := j) (b := k) rfl rfl (by omega) (by omega)).mp c1
    exact go_retv (by decide +kernel) rfl (⟨rfl, A2, cnt, rfl, hM.congr (fun i2 j2 k2 => by unfold GT3; omega), by simp only [tri]; omega⟩)
  · skip
    replace c1 : ¬ j ≤ k := fun zz => c1 ((nx_le (a := j) (b := k) rfl rfl (by omega) (by omega)).mpr zz)
    refine go_blk (pc2 := 11) (L2 := [.ref 27, .int (nI i), .int (nI j), .int (nI k)]) (st2 := [.int (nI k), .int (nI j), .int (nI i), .ref 27]) (M2 := (A2, G, PF)) (hs2 := []) (C := True) [(.aload_n 0, 0, 0), (.iload_n 1, 0, 0), (.iload_n 2, 0, 0), (.iload_n 3, 0, 0)] [] (by decide +kernel) rfl trivial ?_
    refine go_call (Y2 := mX6_meet) (n2 := 39) (st := []) [.ref 27] [.int (nI i), .int (nI j), .int (nI k)] ck_6_110 cwX6_meet rfl (by decide +kernel) rfl (fun h => absurd h (by decide)) (fun _ => ⟨27, rfl, by decide, rfl⟩) (Nat.le_of_ble_eq_true rfl) (Or.inl rfl) (fun _ _ _ h => h) (s_X6_meet l A2 G i j k hi (by omega) (by omega) cnt hM.2.2.1 (by omega)) (fun v M2 hp2 => ?_)
    obtain ⟨rfl, ⟨hin, A3, rfl, hF⟩ | ⟨hin, rfl⟩⟩ := hp2
    · show Go l ro0 mX6_meetAll 39 (A3, G, PF) 14 [.ref 27, .int (nI i), .int (nI j), .int (nI k)] [] 39 _
      refine go_blk (pc2 := 17) (L2 := [.ref 27, .int (nI i), .int (nI j), .int ((nI k) + 1)]) (st2 := []) (M2 := (A3, G, PF)) (hs2 := []) (C := True) [(.iinc 3 1, 0, 0)] [] (by decide +kernel) rfl trivial ?_
      refine go_goto (off := -15) 2 (by decide +kernel) (by decide) ?_
      exact go_as (ih (by omega) A3 (cnt + 1) ((hM.add hin hF).congr (fun i2 j2 k2 => by unfold GT3; omega)) (by omega)) rfl (by simp only [nI_1]) rfl
    · show Go l ro0 mX6_meetAll 39 (A2, G, PF) 14 [.ref 27, .int (nI i), .int (nI j), .int (nI k)] [] 39 _
      refine go_blk (pc2 := 17) (L2 := [.ref 27, .int (nI i), .int (nI j), .int ((nI k) + 1)]) (st2 := []) (M2 := (A2, G, PF)) (hs2 := []) (C := True) [(.iinc 3 1, 0, 0)] [] (by decide +kernel) rfl trivial ?_
      refine go_goto (off := -15) 2 (by decide +kernel) (by decide) ?_
      exact go_as (ih (by omega) A2 cnt ((hM.skip hin).congr (fun i2 j2 k2 => by unfold GT3; omega)) (by omega)) rfl (by simp only [nI_1]) rfl
set_option maxRecDepth 100000 in
set_option maxHeartbeats 4000000 in
theorem s_X6_meetAll (l : Launch) (A : Nat → Nat → Int32) (G : Nat → Nat → Int64) (B0 : Nat → Nat → Int32) (i j : Nat) (hi : i < 14) (hj : j < i) (cnt : Nat) (hM : MI (GT3 i j 0) B0 A cnt) (hb : cnt ≤ tet i + tri j) : Sem l mX6_meetAll [.ref 27, .int (nI i), .int (nI j)] 39 (A, G, PF) 39 (fun r M2 => r = none ∧ ∃ A2 cnt2, M2 = (A2, G, PF) ∧ MI (GT3 i (j + 1) 0) B0 A2 cnt2 ∧ cnt2 ≤ tet i + tri (j + 1)) := by
  refine sem_of_go (by decide) rfl (by decide) (by decide) rfl (Nat.le_of_ble_eq_true rfl) ?_
  show Go l ro0 mX6_meetAll 39 (A, G, PF) 0 [.ref 27, .int (nI i), .int (nI j), .null] [] 39 (fun r M2 => r = none ∧ ∃ A2 cnt2, M2 = (A2, G, PF) ∧ MI (GT3 i (j + 1) 0) B0 A2 cnt2 ∧ cnt2 ≤ tet i + tri (j + 1))
  refine go_blk (pc2 := 2) (L2 := [.ref 27, .int (nI i), .int (nI j), .int 0]) (st2 := []) (M2 := (A, G, PF)) (hs2 := []) (C := True) [(.iconst 0, 0, 0), (.istore_n 3, 0, 0)] [] (by decide +kernel) rfl trivial ?_
  exact lp_X6_meetAll l A G B0 i j hi hj 0 (by omega) A cnt hM (by omega)
