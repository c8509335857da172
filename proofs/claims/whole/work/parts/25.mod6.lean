def upM (A : Nat → Nat → Int32) (a b c : Int32) (n : Nat) : Int64 := (((a * (A 33 (4 * n))) + (b * (A 33 ((4 * n) + 1)))) + (c * (A 33 ((4 * n) + 2)))).toInt64
def dnM (A : Nat → Nat → Int32) (n : Nat) : Int64 := (A 33 ((4 * n) + 3)).toInt64
def bet (A : Nat → Nat → Int32) (a b c x pt : Int32) (t : Tr) (n : Nat) : Prop := fitM A x pt n ∧ (t.2.2 = 0 ∨ 0 < cmpM A t.1 t.2.1 a b c n)
noncomputable def mcl (A : Nat → Nat → Int32) (a b c x pt : Int32) (t : Tr) : Nat → Tr
  | 0 => t
  | n + 1 => @ite Tr (bet A a b c x pt (mcl A a b c x pt t n) n) (Classical.propDecidable _) (upM A a b c n, dnM A n, 1) (mcl A a b c x pt t n)
theorem mcl_t {A : Nat → Nat → Int32} {a b c x pt : Int32} {t : Tr} {n : Nat} (h : bet A a b c x pt (mcl A a b c x pt t n) n) : mcl A a b c x pt t (n + 1) = (upM A a b c n, dnM A n, 1) := if_pos h
theorem mcl_f {A : Nat → Nat → Int32} {a b c x pt : Int32} {t : Tr} {n : Nat} (h : ¬ bet A a b c x pt (mcl A a b c x pt t n) n) : mcl A a b c x pt t (n + 1) = mcl A a b c x pt t n := if_neg h
/-- the cell k is one of a world -/
def okc (A : Nat → Nat → Int32) (ncl k : Nat) : Prop := ¬ A 38 k = 0 ∧ SatM A (k / 5) ncl
noncomputable def mcw (A : Nat → Nat → Int32) (a b c : Int32) (ncl cnt : Nat) (t : Tr) : Nat → Tr
  | 0 => t
  | k + 1 => @ite Tr (okc A ncl k) (Classical.propDecidable _) (mcl A a b c (nI k / 5) (A 37 (k % 5)) (mcw A a b c ncl cnt t k) cnt) (mcw A a b c ncl cnt t k)
theorem mcw_t {A : Nat → Nat → Int32} {a b c : Int32} {ncl cnt k : Nat} {t : Tr} (h : okc A ncl k) : mcw A a b c ncl cnt t (k + 1) = mcl A a b c (nI k / 5) (A 37 (k % 5)) (mcw A a b c ncl cnt t k) cnt := if_pos h
theorem mcw_f {A : Nat → Nat → Int32} {a b c : Int32} {ncl cnt k : Nat} {t : Tr} (h : ¬ okc A ncl k) : mcw A a b c ncl cnt t (k + 1) = mcw A a b c ncl cnt t k := if_neg h
theorem mcl01 {A : Nat → Nat → Int32} {a b c x pt : Int32} {t : Tr} (h : t.2.2 = 0 ∨ t.2.2 = 1) (n : Nat) : (mcl A a b c x pt t n).2.2 = 0 ∨ (mcl A a b c x pt t n).2.2 = 1 := by
  induction n with
  | zero => exact h
  | succ n ih =>
    rcases Classical.em (bet A a b c x pt (mcl A a b c x pt t n) n) with q | q
    · rw [mcl_t q]; exact Or.inr rfl
    · rw [mcl_f q]; exact ih
theorem mcw01 {A : Nat → Nat → Int32} {a b c : Int32} {ncl cnt : Nat} {t : Tr} (h : t.2.2 = 0 ∨ t.2.2 = 1) (k : Nat) : (mcw A a b c ncl cnt t k).2.2 = 0 ∨ (mcw A a b c ncl cnt t k).2.2 = 1 := by
  induction k with
  | zero => exact h
  | succ k ih =>
    rcases Classical.em (okc A ncl k) with q | q
    · rw [mcw_t q]; exact mcl01 ih _
    · rw [mcw_f q]; exact ih
def GI (G G2 : Nat → Nat → Int64) (t : Tr) (f : Int32) : Prop := (∀ o k, ¬ (o = 27 ∧ (k = 16 ∨ k = 17)) → G2 o k = G o k) ∧ G2 27 16 = t.1 ∧ G2 27 17 = t.2.1 ∧ f = t.2.2
theorem d5 : ∀ k, k < 160 → nI k / 5 = nI (k / 5) ∧ nI k - (nI k / 5) * 5 = nI (k % 5) := by decide +kernel
set_option maxRecDepth 100000 in
set_option maxHeartbeats 4000000 in
theorem li_X6_climb (l : Launch) (A : Nat → Nat → Int32) (G : Nat → Nat → Int64) (cnt : Nat) (hC : MCache A cnt) (a b c : Int32) (Q : Option Value → Mem → Prop) (k : Nat) (hk160 : k < 160) (t : Tr) (hout : ∀ G3 f3 j6 j7 j8, GI G G3 (mcl A a b c (nI k / 5) (A 37 (k % 5)) t cnt) f3 → Go l ro0 mX6_climb 39 (A, G3, PF) 10 [.ref 27, .int a, .int b, .int c, .int f3, .int (nI (k + 1)), j6, j7, j8] [] 39 (Q)) : ∀ n, n ≤ cnt → ∀ G2 f j8, GI G G2 (mcl A a b c (nI k / 5) (A 37 (k % 5)) t n) f → Go l ro0 mX6_climb 39 (A, G2, PF) 45 [.ref 27, .int a, .int b, .int c, .int f, .int (nI k), .int 1, .int (nI n), j8] [] 39 (Q) := by
  have hc364 : cnt ≤ 364 := hC.1
  refine down cnt (fun n hn ih G2 f j8 hI => ?_)
  obtain ⟨hI1, hI2, hI3, hf⟩ := hI
  refine go_blk (pc2 := 51) (L2 := [.ref 27, .int a, .int b, .int c, .int f, .int (nI k), .int 1, .int (nI n), j8]) (st2 := [.int (A 27 13), .int (nI n)]) (M2 := (A, G2, PF)) (hs2 := []) (C := True) [(.iload 7, 0, 0), (.aload_n 0, 0, 0), (.getfield 84, 6, 13)] [] (by decide +kernel) rfl trivial ?_
  refine go_cmp (cnd := .ge) (off := 135) 186 (by decide +kernel) (by decide) (fun (c1 : (A 27 13) ≤ (nI n)) => ?_) (fun (c1 : ¬ (A 27 13) ≤ (nI n)) => ?_)
  · skip
    replace c1 : cnt ≤ n := (nx_le (a := cnt) (b := n) hC.2.1 rfl (by omega) (by omega)).mp c1
    refine go_blk (pc2 := 189) (L2 := [.ref 27, .int a, .int b, .int c, .int f, .int ((nI k) + 1), .int 1, .int (nI n), j8]) (st2 := []) (M2 := (A, G2, PF)) (hs2 := []) (C := True) [(.iinc 5 1, 0, 0)] [] (by decide +kernel) rfl trivial ?_
    refine go_goto (off := -179) 10 (by decide +kernel) (by decide) ?_
    exact go_as (hout G2 f (.int 1) (.int (nI n)) j8 ⟨hI1, by rw [show cnt = n by omega]; exact hI2, by rw [show cnt = n by omega]; exact hI3, by rw [show cnt = n by omega]; exact hf⟩) rfl (by simp only [nI_1]) rfl
  · skip
    replace c1 : ¬ cnt ≤ n := fun zz => c1 ((nx_le (a := cnt) (b := n) hC.2.1 rfl (by omega) (by omega)).mpr zz)
    refine go_blk (pc2 := 56) (L2 := [.ref 27, .int a, .int b, .int c, .int f, .int (nI k), .int 1, .int (nI n), j8]) (st2 := [.int 1]) (M2 := (A, G2, PF)) (hs2 := []) (C := True) [(.iload 6, 0, 0)] [] (by decide +kernel) rfl trivial ?_
    refine go_ifz (cnd := .eq) (off := 130) 186 (by decide +kernel) (by decide) (fun (h : (1 : Int32) = 0) => absurd h (by decide)) (fun _ => ?_)
    refine go_blk (pc2 := 75) (L2 := [.ref 27, .int a, .int b, .int c, .int f, .int (nI k), .int 1, .int (nI n), j8]) (st2 := [.int (A 37 (k % 5)), .int ((nI k) / 5), .int (nI n), .ref 27]) (M2 := (A, G2, PF)) (hs2 := []) (C := (¬ 5 = 0) ∧ (¬ 5 = 0) ∧ (((nI k) - ((nI k) / 5) * 5) = nI (k % 5) ∧ (k % 5) < 5) ∧ True) [(.aload_n 0, 0, 0), (.iload 7, 0, 0), (.iload 5, 0, 0), (.iconst 5, 0, 0), (.idiv, 0, 0), (.aload_n 0, 0, 0), (.getfield 37, 6, 14), (.iload 5, 0, 0), (.iconst 5, 0, 0), (.irem, 0, 0), (.iaload, 0, 0)] [(k % 5)] (by decide +kernel) rfl ⟨by decide, by decide, ⟨((d5 k hk160).2), by omega⟩, trivial⟩ ?_
    refine go_call (Y2 := mX6_fits) (n2 := 39) (st := []) [.ref 27] [.int (nI n), .int ((nI k) / 5), .int (A 37 (k % 5))] ck_6_120 cwX6_fits rfl (by decide +kernel) rfl (fun h => absurd h (by decide)) (fun _ => ⟨27, rfl, by decide, rfl⟩) (Nat.le_of_ble_eq_true rfl) (Or.inl rfl) (fun _ _ _ h => h) (s_X6_fits l A G2 n (by omega) ((nI k) / 5) (A 37 (k % 5))) (fun v M2 hp2 => ?_)
    obtain ⟨rfl, rfl⟩ := hp2
    rcases Classical.em (fitM A ((nI k) / 5) (A 37 (k % 5)) n) with hb3 | hb3
    · rw [bi_t hb3]
      show Go l ro0 mX6_climb 39 (A, G2, PF) 78 [.ref 27, .int a, .int b, .int c, .int f, .int (nI k), .int 1, .int (nI n), j8] [.int 1] 39 _
      refine go_blk (pc2 := 82) (L2 := [.ref 27, .int a, .int b, .int c, .int f, .int (nI k), .int 1, .int (nI n), .int 1]) (st2 := [.int 1]) (M2 := (A, G2, PF)) (hs2 := []) (C := True) [(.istore 8, 0, 0), (.iload 8, 0, 0)] [] (by decide +kernel) rfl trivial ?_
      refine go_ifz (cnd := .eq) (off := 27) 109 (by decide +kernel) (by decide) (fun (h : (1 : Int32) = 0) => absurd h (by decide)) (fun _ => ?_)
      refine go_blk (pc2 := 87) (L2 := [.ref 27, .int a, .int b, .int c, .int f, .int (nI k), .int 1, .int (nI n), .int 1]) (st2 := [.int f]) (M2 := (A, G2, PF)) (hs2 := []) (C := True) [(.iload 4, 0, 0)] [] (by decide +kernel) rfl trivial ?_
      refine go_ifz (cnd := .eq) (off := 22) 109 (by decide +kernel) (by decide) (fun (c4 : f = 0) => ?_) (fun (c4 : ¬ f = 0) => ?_)
      · skip
        refine go_blk (pc2 := 111) (L2 := [.ref 27, .int a, .int b, .int c, .int f, .int (nI k), .int 1, .int (nI n), .int 1]) (st2 := [.int 1]) (M2 := (A, G2, PF)) (hs2 := []) (C := True) [(.iload 8, 0, 0)] [] (by decide +kernel) rfl trivial ?_
        refine go_ifz (cnd := .ne) (off := 6) 117 (by decide +kernel) (by decide) (fun _ => ?_) (fun (h : (1 : Int32) = 0) => absurd h (by decide))
        refine go_blk (pc2 := 183) (L2 := [.ref 27, .int a, .int b, .int c, .int 1, .int (nI k), .int 1, .int ((nI n) + 1), .int 1]) (st2 := []) (M2 := (A, (u2 (u2 G2 27 16 ((((a * (A 33 (4 * n))) + (b * (A 33 ((4 * n) + 1)))) + (c * (A 33 ((4 * n) + 2)))).toInt64)) 27 17 ((A 33 ((4 * n) + 3)).toInt64)), PF)) (hs2 := []) (C := ((4 * (nI n)) = nI (4 * n) ∧ (4 * n) < 1600) ∧ (((4 * (nI n)) + 1) = nI ((4 * n) + 1) ∧ ((4 * n) + 1) < 1600) ∧ (((4 * (nI n)) + 2) = nI ((4 * n) + 2) ∧ ((4 * n) + 2) < 1600) ∧ (((4 * (nI n)) + 3) = nI ((4 * n) + 3) ∧ ((4 * n) + 3) < 1600) ∧ True) [(.iconst 1, 0, 0), (.istore 4, 0, 0), (.aload_n 0, 0, 0), (.iload_n 1, 0, 0), (.aload_n 0, 0, 0), (.getfield 25, 6, 9), (.iconst 4, 0, 0), (.iload 7, 0, 0), (.imul, 0, 0), (.iaload, 0, 0), (.imul, 0, 0), (.iload_n 2, 0, 0), (.aload_n 0, 0, 0), (.getfield 25, 6, 9), (.iconst 4, 0, 0), (.iload 7, 0, 0), (.imul, 0, 0), (.iconst 1, 0, 0), (.iadd, 0, 0), (.iaload, 0, 0), (.imul, 0, 0), (.iadd, 0, 0), (.iload_n 3, 0, 0), (.aload_n 0, 0, 0), (.getfield 25, 6, 9), (.iconst 4, 0, 0), (.iload 7, 0, 0), (.imul, 0, 0), (.iconst 2, 0, 0), (.iadd, 0, 0), (.iaload, 0, 0), (.imul, 0, 0), (.iadd, 0, 0), (.i2l, 0, 0), (.putfield 143, 6, 16), (.aload_n 0, 0, 0), (.aload_n 0, 0, 0), (.getfield 25, 6, 9), (.iconst 4, 0, 0), (.iload 7, 0, 0), (.imul, 0, 0), (.iconst 3, 0, 0), (.iadd, 0, 0), (.iaload, 0, 0), (.i2l, 0, 0), (.putfield 139, 6, 17), (.iinc 7 1, 0, 0)] [(4 * n), ((4 * n) + 1), ((4 * n) + 2), ((4 * n) + 3)] (by decide +kernel) rfl ⟨⟨(by first | rfl | (simp only [nI, Int32.ofNat_add, Int32.ofNat_mul]; done) | (simp only [nI, Int32.ofNat_add, Int32.ofNat_mul]; rfl)), by omega⟩, ⟨(by first | rfl | (simp only [nI, Int32.ofNat_add, Int32.ofNat_mul]; done) | (simp only [nI, Int32.ofNat_add, Int32.ofNat_mul]; rfl)), by omega⟩, ⟨(by first | rfl | (simp only [nI, Int32.ofNat_add, Int32.ofNat_mul]; done) | (simp only [nI, Int32.ofNat_add, Int32.ofNat_mul]; rfl)), by omega⟩, ⟨(by first | rfl | (simp only [nI, Int32.ofNat_add, Int32.ofNat_mul]; done) | (simp only [nI, Int32.ofNat_add, Int32.ofNat_mul]; rfl)), by omega⟩, trivial⟩ ?_
        refine go_goto (off := -138) 45 (by decide +kernel) (by decide) ?_
        have hg : bet A a b c (nI k / 5) (A 37 (k % 5)) (mcl A a b c (nI k / 5) (A 37 (k % 5)) t n) n := ⟨by assumption, by first | (left; rw [← hf]; assumption) | (right; rw [← hI2, ← hI3]; exact Int32.not_le.mp (by assumption))⟩
        exact go_as (ih (by omega) (u2 (u2 G2 27 16 ((((a * (A 33 (4 * n))) + (b * (A 33 ((4 * n) + 1)))) + (c * (A 33 ((4 * n) + 2)))).toInt64)) 27 17 ((A 33 ((4 * n) + 3)).toInt64)) 1 (.int 1) ⟨fun o k ho => by rw [u2_ne (by omega), u2_ne (by omega)]; exact hI1 o k ho, by rw [mcl_t hg, u2_k (by decide), u2_s]; rfl, by rw [mcl_t hg, u2_s]; rfl, by rw [mcl_t hg]⟩) rfl (by simp only [nI_1]) rfl
      · skip
        refine go_blk (pc2 := 96) (L2 := [.ref 27, .int a, .int b, .int c, .int f, .int (nI k), .int 1, .int (nI n), .int 1]) (st2 := [.int c, .int b, .int a, .int (nI n), .ref 27]) (M2 := (A, G2, PF)) (hs2 := []) (C := True) [(.aload_n 0, 0, 0), (.iload 7, 0, 0), (.iload_n 1, 0, 0), (.iload_n 2, 0, 0), (.iload_n 3, 0, 0)] [] (by decide +kernel) rfl trivial ?_
        refine go_call (Y2 := mX6_compare) (n2 := 39) (st := []) [.ref 27] [.int (nI n), .int a, .int b, .int c] ck_6_123 cwX6_compare rfl (by decide +kernel) rfl (fun h => absurd h (by decide)) (fun _ => ⟨27, rfl, by decide, rfl⟩) (Nat.le_of_ble_eq_true rfl) (Or.inl rfl) (fun _ _ _ h => h) (s_X6_compare l A G2 n (by omega) a b c) (fun v M2 hp5 => ?_)
        obtain ⟨rfl, rfl⟩ := hp5
        show Go l ro0 mX6_climb 39 (A, G2, PF) 99 [.ref 27, .int a, .int b, .int c, .int f, .int (nI k), .int 1, .int (nI n), .int 1] [.int (cmpM A (G2 27 16) (G2 27 17) a b c n)] 39 _
        refine go_ifz (cnd := .le) (off := 7) 106 (by decide +kernel) (by decide) (fun (c6 : (cmpM A (G2 27 16) (G2 27 17) a b c n) ≤ 0) => ?_) (fun (c6 : ¬ (cmpM A (G2 27 16) (G2 27 17) a b c n) ≤ 0) => ?_)
        · skip
          refine go_blk (pc2 := 111) (L2 := [.ref 27, .int a, .int b, .int c, .int f, .int (nI k), .int 1, .int (nI n), .int 0]) (st2 := [.int 0]) (M2 := (A, G2, PF)) (hs2 := []) (C := True) [(.iconst 0, 0, 0), (.istore 8, 0, 0), (.iload 8, 0, 0)] [] (by decide +kernel) rfl trivial ?_
          refine go_ifz (cnd := .ne) (off := 6) 117 (by decide +kernel) (by decide) (fun (h : ¬ (0 : Int32) = 0) => absurd h (by decide)) (fun _ => ?_)
          refine go_goto (off := 66) 180 (by decide +kernel) (by decide) ?_
          refine go_blk (pc2 := 183) (L2 := [.ref 27, .int a, .int b, .int c, .int f, .int (nI k), .int 1, .int ((nI n) + 1), .int 0]) (st2 := []) (M2 := (A, G2, PF)) (hs2 := []) (C := True) [(.iinc 7 1, 0, 0)] [] (by decide +kernel) rfl trivial ?_
          refine go_goto (off := -138) 45 (by decide +kernel) (by decide) ?_
          have hg : ¬ bet A a b c (nI k / 5) (A 37 (k % 5)) (mcl A a b c (nI k / 5) (A 37 (k % 5)) t n) n := by
            rintro ⟨z1, z2⟩
            first
            | contradiction
            | (rcases z2 with z2 | z2
               · rw [← hf] at z2; contradiction
               · rw [← hI2, ← hI3] at z2; exact absurd z2 (Int32.not_lt.mpr (by assumption)))
          exact go_as (ih (by omega) G2 f (.int 0) ⟨hI1, by rw [mcl_f hg]; exact hI2, by rw [mcl_f hg]; exact hI3, by rw [mcl_f hg]; exact hf⟩) rfl (by simp only [nI_1]) rfl
        · skip
          refine go_blk (pc2 := 103) (L2 := [.ref 27, .int a, .int b, .int c, .int f, .int (nI k), .int 1, .int (nI n), .int 1]) (st2 := [.int 1]) (M2 := (A, G2, PF)) (hs2 := []) (C := True) [(.iconst 1, 0, 0)] [] (by decide +kernel) rfl trivial ?_
          refine go_goto (off := 4) 107 (by decide +kernel) (by decide) ?_
          refine go_blk (pc2 := 111) (L2 := [.ref 27, .int a, .int b, .int c, .int f, .int (nI k), .int 1, .int (nI n), .int 1]) (st2 := [.int 1]) (M2 := (A, G2, PF)) (hs2 := []) (C := True) [(.istore 8, 0, 0), (.iload 8, 0, 0)] [] (by decide +kernel) rfl trivial ?_
          refine go_ifz (cnd := .ne) (off := 6) 117 (by decide +kernel) (by decide) (fun _ => ?_) (fun (h : (1 : Int32) = 0) => absurd h (by decide))
          refine go_blk (pc2 := 183) (L2 := [.ref 27, .int a, .int b, .int c, .int 1, .int (nI k), .int 1, .int ((nI n) + 1), .int 1]) (st2 := []) (M2 := (A, (u2 (u2 G2 27 16 ((((a * (A 33 (4 * n))) + (b * (A 33 ((4 * n) + 1)))) + (c * (A 33 ((4 * n) + 2)))).toInt64)) 27 17 ((A 33 ((4 * n) + 3)).toInt64)), PF)) (hs2 := []) (C := ((4 * (nI n)) = nI (4 * n) ∧ (4 * n) < 1600) ∧ (((4 * (nI n)) + 1) = nI ((4 * n) + 1) ∧ ((4 * n) + 1) < 1600) ∧ (((4 * (nI n)) + 2) = nI ((4 * n) + 2) ∧ ((4 * n) + 2) < 1600) ∧ (((4 * (nI n)) + 3) = nI ((4 * n) + 3) ∧ ((4 * n) + 3) < 1600) ∧ True) [(.iconst 1, 0, 0), (.istore 4, 0, 0), (.aload_n 0, 0, 0), (.iload_n 1, 0, 0), (.aload_n 0, 0, 0), (.getfield 25, 6, 9), (.iconst 4, 0, 0), (.iload 7, 0, 0), (.imul, 0, 0), (.iaload, 0, 0), (.imul, 0, 0), (.iload_n 2, 0, 0), (.aload_n 0, 0, 0), (.getfield 25, 6, 9), (.iconst 4, 0, 0), (.iload 7, 0, 0), (.imul, 0, 0), (.iconst 1, 0, 0), (.iadd, 0, 0), (.iaload, 0, 0), (.imul, 0, 0), (.iadd, 0, 0), (.iload_n 3, 0, 0), (.aload_n 0, 0, 0), (.getfield 25, 6, 9), (.iconst 4, 0, 0), (.iload 7, 0, 0), (.imul, 0, 0), (.iconst 2, 0, 0), (.iadd, 0, 0), (.iaload, 0, 0), (.imul, 0, 0), (.iadd, 0, 0), (.i2l, 0, 0), (.putfield 143, 6, 16), (.aload_n 0, 0, 0), (.aload_n 0, 0, 0), (.getfield 25, 6, 9), (.iconst 4, 0, 0), (.iload 7, 0, 0), (.imul, 0, 0), (.iconst 3, 0, 0), (.iadd, 0, 0), (.iaload, 0, 0), (.i2l, 0, 0), (.putfield 139, 6, 17), (.iinc 7 1, 0, 0)] [(4 * n), ((4 * n) + 1), ((4 * n) + 2), ((4 * n) + 3)] (by decide +kernel) rfl ⟨⟨(by first | rfl | (simp only [nI, Int32.ofNat_add, Int32.ofNat_mul]; done) | (simp only [nI, Int32.ofNat_add, Int32.ofNat_mul]; rfl)), by omega⟩, ⟨(by first | rfl | (simp only [nI, Int32.ofNat_add, Int32.ofNat_mul]; done) | (simp only [nI, Int32.ofNat_add, Int32.ofNat_mul]; rfl)), by omega⟩, ⟨(by first | rfl | (simp only [nI, Int32.ofNat_add, Int32.ofNat_mul]; done) | (simp only [nI, Int32.ofNat_add, Int32.ofNat_mul]; rfl)), by omega⟩, ⟨(by first | rfl | (simp only [nI, Int32.ofNat_add, Int32.ofNat_mul]; done) | (simp only [nI, Int32.ofNat_add, Int32.ofNat_mul]; rfl)), by omega⟩, trivial⟩ ?_
          refine go_goto (off := -138) 45 (by decide +kernel) (by decide) ?_
          have hg : bet A a b c (nI k / 5) (A 37 (k % 5)) (mcl A a b c (nI k / 5) (A 37 (k % 5)) t n) n := ⟨by assumption, by first | (left; rw [← hf]; assumption) | (right; rw [← hI2, ← hI3]; exact Int32.not_le.mp (by assumption))⟩
          exact go_as (ih (by omega) (u2 (u2 G2 27 16 ((((a * (A 33 (4 * n))) + (b * (A 33 ((4 * n) + 1)))) + (c * (A 33 ((4 * n) + 2)))).toInt64)) 27 17 ((A 33 ((4 * n) + 3)).toInt64)) 1 (.int 1) ⟨fun o k ho => by rw [u2_ne (by omega), u2_ne (by omega)]; exact hI1 o k ho, by rw [mcl_t hg, u2_k (by decide), u2_s]; rfl, by rw [mcl_t hg, u2_s]; rfl, by rw [mcl_t hg]⟩) rfl (by simp only [nI_1]) rfl
    · rw [bi_f hb3]
      show Go l ro0 mX6_climb 39 (A, G2, PF) 78 [.ref 27, .int a, .int b, .int c, .int f, .int (nI k), .int 1, .int (nI n), j8] [.int 0] 39 _
      refine go_blk (pc2 := 82) (L2 := [.ref 27, .int a, .int b, .int c, .int f, .int (nI k), .int 1, .int (nI n), .int 0]) (st2 := [.int 0]) (M2 := (A, G2, PF)) (hs2 := []) (C := True) [(.istore 8, 0, 0), (.iload 8, 0, 0)] [] (by decide +kernel) rfl trivial ?_
      refine go_ifz (cnd := .eq) (off := 27) 109 (by decide +kernel) (by decide) (fun _ => ?_) (fun (h : ¬ (0 : Int32) = 0) => absurd h (by decide))
      refine go_blk (pc2 := 111) (L2 := [.ref 27, .int a, .int b, .int c, .int f, .int (nI k), .int 1, .int (nI n), .int 0]) (st2 := [.int 0]) (M2 := (A, G2, PF)) (hs2 := []) (C := True) [(.iload 8, 0, 0)] [] (by decide +kernel) rfl trivial ?_
      refine go_ifz (cnd := .ne) (off := 6) 117 (by decide +kernel) (by decide) (fun (h : ¬ (0 : Int32) = 0) => absurd h (by decide)) (fun _ => ?_)
      refine go_goto (off := 66) 180 (by decide +kernel) (by decide) ?_
      refine go_blk (pc2 := 183) (L2 := [.ref 27, .int a, .int b, .int c, .int f, .int (nI k), .int 1, .int ((nI n) + 1), .int 0]) (st2 := []) (M2 := (A, G2, PF)) (hs2 := []) (C := True) [(.iinc 7 1, 0, 0)] [] (by decide +kernel) rfl trivial ?_
      refine go_goto (off := -138) 45 (by decide +kernel) (by decide) ?_
      have hg : ¬ bet A a b c (nI k / 5) (A 37 (k % 5)) (mcl A a b c (nI k / 5) (A 37 (k % 5)) t n) n := by
        rintro ⟨z1, z2⟩
        first
        | contradiction
        | (rcases z2 with z2 | z2
           · rw [← hf] at z2; contradiction
           · rw [← hI2, ← hI3] at z2; exact absurd z2 (Int32.not_lt.mpr (by assumption)))
      exact go_as (ih (by omega) G2 f (.int 0) ⟨hI1, by rw [mcl_f hg]; exact hI2, by rw [mcl_f hg]; exact hI3, by rw [mcl_f hg]; exact hf⟩) rfl (by simp only [nI_1]) rfl
set_option maxRecDepth 100000 in
set_option maxHeartbeats 4000000 in
theorem lz_X6_climb (l : Launch) (A : Nat → Nat → Int32) (G : Nat → Nat → Int64) (cnt : Nat) (hC : MCache A cnt) (a b c : Int32) (Q : Option Value → Mem → Prop) (G2 : Nat → Nat → Int64) (f z : Int32) (hz : z = 0) (k : Nat) (j8 : Value) (hout : Go l ro0 mX6_climb 39 (A, G2, PF) 10 [.ref 27, .int a, .int b, .int c, .int f, .int (nI (k + 1)), .int z, .int 0, j8] [] 39 (Q)) : Go l ro0 mX6_climb 39 (A, G2, PF) 45 [.ref 27, .int a, .int b, .int c, .int f, .int (nI k), .int z, .int 0, j8] [] 39 (Q) := by
  have hc364 : cnt ≤ 364 := hC.1
  refine go_blk (pc2 := 51) (L2 := [.ref 27, .int a, .int b, .int c, .int f, .int (nI k), .int z, .int 0, j8]) (st2 := [.int (A 27 13), .int 0]) (M2 := (A, G2, PF)) (hs2 := []) (C := True) [(.iload 7, 0, 0), (.aload_n 0, 0, 0), (.getfield 84, 6, 13)] [] (by decide +kernel) rfl trivial ?_
  refine go_cmp (cnd := .ge) (off := 135) 186 (by decide +kernel) (by decide) (fun (c1 : (A 27 13) ≤ 0) => ?_) (fun (c1 : ¬ (A 27 13) ≤ 0) => ?_)
  · skip
    replace c1 : cnt ≤ 0 := (nx_le (a := cnt) (b := 0) hC.2.1 rfl (by omega) (by omega)).mp c1
    refine go_blk (pc2 := 189) (L2 := [.ref 27, .int a, .int b, .int c, .int f, .int ((nI k) + 1), .int z, .int 0, j8]) (st2 := []) (M2 := (A, G2, PF)) (hs2 := []) (C := True) [(.iinc 5 1, 0, 0)] [] (by decide +kernel) rfl trivial ?_
    refine go_goto (off := -179) 10 (by decide +kernel) (by decide) ?_
    exact go_as hout rfl (by simp only [nI_1]) rfl
  · skip
    replace c1 : ¬ cnt ≤ 0 := fun zz => c1 ((nx_le (a := cnt) (b := 0) hC.2.1 rfl (by omega) (by omega)).mpr zz)
    refine go_blk (pc2 := 56) (L2 := [.ref 27, .int a, .int b, .int c, .int f, .int (nI k), .int z, .int 0, j8]) (st2 := [.int z]) (M2 := (A, G2, PF)) (hs2 := []) (C := True) [(.iload 6, 0, 0)] [] (by decide +kernel) rfl trivial ?_
    refine go_ifz (cnd := .eq) (off := 130) 186 (by decide +kernel) (by decide) (fun _ => ?_) (fun (h : ¬ z = 0) => absurd h (fun zz => zz hz))
    refine go_blk (pc2 := 189) (L2 := [.ref 27, .int a, .int b, .int c, .int f, .int ((nI k) + 1), .int z, .int 0, j8]) (st2 := []) (M2 := (A, G2, PF)) (hs2 := []) (C := True) [(.iinc 5 1, 0, 0)] [] (by decide +kernel) rfl trivial ?_
    refine go_goto (off := -179) 10 (by decide +kernel) (by decide) ?_
    exact go_as hout rfl (by simp only [nI_1]) rfl
set_option maxRecDepth 100000 in
set_option maxHeartbeats 4000000 in
theorem lp_X6_climb (l : Launch) (A : Nat → Nat → Int32) (G : Nat → Nat → Int64) (hL : LitOkM A) (ncl : Nat) (hn : A 27 4 = nI ncl) (hn8 : ncl ≤ 8) (cnt : Nat) (hC : MCache A cnt) (a b c : Int32) : ∀ k, k ≤ 160 → ∀ G2 f j6 j7 j8, GI G G2 (mcw A a b c ncl cnt (G 27 16, G 27 17, 0) k) f → Go l ro0 mX6_climb 39 (A, G2, PF) 10 [.ref 27, .int a, .int b, .int c, .int f, .int (nI k), j6, j7, j8] [] 39 (fun r M2 => ∃ G2 f, M2 = (A, G2, PF) ∧ GI G G2 (mcw A a b c ncl cnt (G 27 16, G 27 17, 0) 160) f ∧ (f = 0 ∨ f = 1) ∧ r = some (.int f)) := by
  refine down 160 (fun k hk ih G2 f j6 j7 j8 hI => ?_)
  have f01 : f = 0 ∨ f = 1 := by rw [hI.2.2.2]; exact mcw01 (Or.inl rfl) k
  refine go_blk (pc2 := 15) (L2 := [.ref 27, .int a, .int b, .int c, .int f, .int (nI k), j6, j7, j8]) (st2 := [.int 160, .int (nI k)]) (M2 := (A, G2, PF)) (hs2 := []) (C := True) [(.iload 5, 0, 0), (.sipush 160, 0, 0)] [] (by decide +kernel) rfl trivial ?_
  refine go_cmp (cnd := .ge) (off := 177) 192 (by decide +kernel) (by decide) (fun (c1 : 160 ≤ (nI k)) => ?_) (fun (c1 : ¬ 160 ≤ (nI k)) => ?_)
  · skip
    replace c1 : 160 ≤ k := (nx_le (a := 160) (b := k) rfl rfl (by omega) (by omega)).mp c1
    refine go_blk (pc2 := 194) (L2 := [.ref 27, .int a, .int b, .int c, .int f, .int (nI k), j6, j7, j8]) (st2 := [.int f]) (M2 := (A, G2, PF)) (hs2 := []) (C := True) [(.iload 4, 0, 0)] [] (by decide +kernel) rfl trivial ?_
    exact go_retz (by decide +kernel) rfl (f01) (⟨G2, f, rfl, by obtain rfl : k = 160 := (by omega); exact hI, f01, rfl⟩)
  · skip
    replace c1 : ¬ 160 ≤ k := fun zz => c1 ((nx_le (a := 160) (b := k) rfl rfl (by omega) (by omega)).mpr zz)
    refine go_blk (pc2 := 29) (L2 := [.ref 27, .int a, .int b, .int c, .int f, .int (nI k), .int (A 38 k), j7, j8]) (st2 := [.int (A 38 k)]) (M2 := (A, G2, PF)) (hs2 := []) (C := ((nI k) = nI k ∧ k < 160) ∧ True) [(.aload_n 0, 0, 0), (.getfield 40, 6, 15), (.iload 5, 0, 0), (.baload, 0, 0), (.istore 6, 0, 0), (.iload 6, 0, 0)] [k] (by decide +kernel) rfl ⟨⟨rfl, by omega⟩, trivial⟩ ?_
    refine go_ifz (cnd := .eq) (off := 13) 42 (by decide +kernel) (by decide) (fun (c2 : (A 38 k) = 0) => ?_) (fun (c2 : ¬ (A 38 k) = 0) => ?_)
    · skip
      refine go_blk (pc2 := 45) (L2 := [.ref 27, .int a, .int b, .int c, .int f, .int (nI k), .int (A 38 k), .int 0, j8]) (st2 := []) (M2 := (A, G2, PF)) (hs2 := []) (C := True) [(.iconst 0, 0, 0), (.istore 7, 0, 0)] [] (by decide +kernel) rfl trivial ?_
      have hg : ¬ okc A ncl k := fun zz => by first | exact zz.1 (by assumption) | exact absurd zz.2 (by assumption)
      exact lz_X6_climb l A G cnt hC a b c _ G2 f (A 38 k) (by assumption) k j8 (ih (by omega) G2 f _ _ _ (by rw [mcw_f hg]; exact hI))
    · skip
      refine go_blk (pc2 := 37) (L2 := [.ref 27, .int a, .int b, .int c, .int f, .int (nI k), .int (A 38 k), j7, j8]) (st2 := [.int ((nI k) / 5), .ref 27]) (M2 := (A, G2, PF)) (hs2 := []) (C := (¬ 5 = 0) ∧ True) [(.aload_n 0, 0, 0), (.iload 5, 0, 0), (.iconst 5, 0, 0), (.idiv, 0, 0)] [] (by decide +kernel) rfl ⟨by decide, trivial⟩ ?_
      refine go_call (Y2 := mX6_satisfies) (n2 := 39) (st := []) [.ref 27] [.int ((nI k) / 5)] ck_6_133 cwX6_satisfies rfl (by decide +kernel) rfl (fun h => absurd h (by decide)) (fun _ => ⟨27, rfl, by decide, rfl⟩) (Nat.le_of_ble_eq_true rfl) (Or.inl rfl) (fun _ _ _ h => h) (by rw [(d5 k (by omega)).1]; exact s_X6_satisfies l A G2 hL ncl hn hn8 (k / 5) (by omega)) (fun v M2 hp3 => ?_)
      obtain ⟨rfl, rfl⟩ := hp3
      rcases Classical.em (SatM A (k / 5) ncl) with hb4 | hb4
      · rw [bi_t hb4]
        show Go l ro0 mX6_climb 39 (A, G2, PF) 40 [.ref 27, .int a, .int b, .int c, .int f, .int (nI k), .int (A 38 k), j7, j8] [.int 1] 39 _
        refine go_blk (pc2 := 45) (L2 := [.ref 27, .int a, .int b, .int c, .int f, .int (nI k), .int 1, .int 0, j8]) (st2 := []) (M2 := (A, G2, PF)) (hs2 := []) (C := True) [(.istore 6, 0, 0), (.iconst 0, 0, 0), (.istore 7, 0, 0)] [] (by decide +kernel) rfl trivial ?_
        have hg : okc A ncl k := ⟨by assumption, by assumption⟩
        exact li_X6_climb l A G cnt hC a b c _ k (by omega) (mcw A a b c ncl cnt (G 27 16, G 27 17, 0) k) (fun G3 f3 j6 j7 j8 h3 => ih (by omega) G3 f3 j6 j7 j8 (by rw [mcw_t hg]; exact h3)) 0 (by omega) G2 f j8 hI
      · rw [bi_f hb4]
        show Go l ro0 mX6_climb 39 (A, G2, PF) 40 [.ref 27, .int a, .int b, .int c, .int f, .int (nI k), .int (A 38 k), j7, j8] [.int 0] 39 _
        refine go_blk (pc2 := 45) (L2 := [.ref 27, .int a, .int b, .int c, .int f, .int (nI k), .int 0, .int 0, j8]) (st2 := []) (M2 := (A, G2, PF)) (hs2 := []) (C := True) [(.istore 6, 0, 0), (.iconst 0, 0, 0), (.istore 7, 0, 0)] [] (by decide +kernel) rfl trivial ?_
        have hg : ¬ okc A ncl k := fun zz => by first | exact zz.1 (by assumption) | exact absurd zz.2 (by assumption)
        exact lz_X6_climb l A G cnt hC a b c _ G2 f 0 rfl k j8 (ih (by omega) G2 f _ _ _ (by rw [mcw_f hg]; exact hI))
set_option maxRecDepth 100000 in
set_option maxHeartbeats 4000000 in
theorem s_X6_climb (l : Launch) (A : Nat → Nat → Int32) (G : Nat → Nat → Int64) (hL : LitOkM A) (ncl : Nat) (hn : A 27 4 = nI ncl) (hn8 : ncl ≤ 8) (hpt : ∀ p, p < 5 → A 37 p = nI (part p)) (hkn : ¬ A 27 6 = 0 → A 27 6 = 1 ∧ ∃ cnt, MCache A cnt) (a b c : Int32) : Sem l mX6_climb [.ref 27, .int a, .int b, .int c] 39 (A, G, PF) 39 (fun r M2 => ∃ A2 cnt G2 f, M2 = (A2, G2, PF) ∧ MCache A2 cnt ∧ KnF A A2 ∧ A2 27 6 = 1 ∧ GI G G2 (mcw A2 a b c ncl cnt (G 27 16, G 27 17, 0) 160) f ∧ (f = 0 ∨ f = 1) ∧ r = some (.int f)) := by
  refine sem_of_go (by decide) rfl (by decide) (by decide) rfl (Nat.le_of_ble_eq_true rfl) ?_
  show Go l ro0 mX6_climb 39 (A, G, PF) 0 [.ref 27, .int a, .int b, .int c, .null, .null, .null, .null, .null] [] 39 (fun r M2 => ∃ A2 cnt G2 f, M2 = (A2, G2, PF) ∧ MCache A2 cnt ∧ KnF A A2 ∧ A2 27 6 = 1 ∧ GI G G2 (mcw A2 a b c ncl cnt (G 27 16, G 27 17, 0) 160) f ∧ (f = 0 ∨ f = 1) ∧ r = some (.int f))
  refine go_blk (pc2 := 1) (L2 := [.ref 27, .int a, .int b, .int c, .null, .null, .null, .null, .null]) (st2 := [.ref 27]) (M2 := (A, G, PF)) (hs2 := []) (C := True) [(.aload_n 0, 0, 0)] [] (by decide +kernel) rfl trivial ?_
  refine go_call (Y2 := mX6_know) (n2 := 39) (st := []) [.ref 27] [] ck_6_130 cwX6_know rfl (by decide +kernel) rfl (fun h => absurd h (by decide)) (fun _ => ⟨27, rfl, by decide, rfl⟩) (Nat.le_of_ble_eq_true rfl) (Or.inl rfl) (fun _ _ _ h => h) (s_X6_know l A G hpt hkn) (fun v M2 hp1 => ?_)
  obtain ⟨rfl, A2, cnt, rfl, hC, hKn, hk1⟩ := hp1
  show Go l ro0 mX6_climb 39 (A2, G, PF) 4 [.ref 27, .int a, .int b, .int c, .null, .null, .null, .null, .null] [] 39 _
  refine go_blk (pc2 := 10) (L2 := [.ref 27, .int a, .int b, .int c, .int 0, .int 0, .null, .null, .null]) (st2 := []) (M2 := (A2, G, PF)) (hs2 := []) (C := True) [(.iconst 0, 0, 0), (.istore 4, 0, 0), (.iconst 0, 0, 0), (.istore 5, 0, 0)] [] (by decide +kernel) rfl trivial ?_
  refine Go.mono (lp_X6_climb l A2 G (hL.kn hKn) ncl (hKn.n.trans hn) hn8 cnt hC a b c 0 (by omega) G 0 _ _ _ ⟨fun _ _ _ => rfl, rfl, rfl, rfl⟩) ?_
  rintro _ _ ⟨G2, f, rfl, h1, h2, rfl⟩
  exact ⟨A2, cnt, G2, f, rfl, hC, hKn, hk1, h1, h2, rfl⟩
set_option maxRecDepth 100000 in
set_option maxHeartbeats 4000000 in
theorem s_X6_bounded (l : Launch) (A : Nat → Nat → Int32) (G : Nat → Nat → Int64) (hL : LitOkM A) (ncl : Nat) (hn : A 27 4 = nI ncl) (hn8 : ncl ≤ 8) (hpt : ∀ p, p < 5 → A 37 p = nI (part p)) (hkn : ¬ A 27 6 = 0 → A 27 6 = 1 ∧ ∃ cnt, MCache A cnt) (a b c d : Int32) : Sem l mX6_bounded [.ref 27, .int a, .int b, .int c, .int d] 39 (A, G, PF) 39 (fun r M2 => (¬ ((f9 a ∧ f9 b ∧ f9 c) ∧ f99 d) ∧ r = some (.int 0) ∧ M2 = (A, G, PF)) ∨ (((f9 a ∧ f9 b ∧ f9 c) ∧ f99 d) ∧ ∃ A2 cnt G2, M2 = (A2, G2, PF) ∧ MCache A2 cnt ∧ KnF A A2 ∧ A2 27 6 = 1 ∧ (∀ o k, ¬ (o = 27 ∧ (k = 16 ∨ k = 17)) → G2 o k = G o k) ∧ r = some (.int (bi ((mcw A2 a b c ncl cnt (G 27 16, G 27 17, 0) 160).2.2 = 0 ∨ (mcw A2 a b c ncl cnt (G 27 16, G 27 17, 0) 160).1 ≤ d.toInt64 * (mcw A2 a b c ncl cnt (G 27 16, G 27 17, 0) 160).2.1))))) := by
  refine sem_of_go (by decide) rfl (by decide) (by decide) rfl (Nat.le_of_ble_eq_true rfl) ?_
  show Go l ro0 mX6_bounded 39 (A, G, PF) 0 [.ref 27, .int a, .int b, .int c, .int d] [] 39 (fun r M2 => (¬ ((f9 a ∧ f9 b ∧ f9 c) ∧ f99 d) ∧ r = some (.int 0) ∧ M2 = (A, G, PF)) ∨ (((f9 a ∧ f9 b ∧ f9 c) ∧ f99 d) ∧ ∃ A2 cnt G2, M2 = (A2, G2, PF) ∧ MCache A2 cnt ∧ KnF A A2 ∧ A2 27 6 = 1 ∧ (∀ o k, ¬ (o = 27 ∧ (k = 16 ∨ k = 17)) → G2 o k = G o k) ∧ r = some (.int (bi ((mcw A2 a b c ncl cnt (G 27 16, G 27 17, 0) 160).2.2 = 0 ∨ (mcw A2 a b c ncl cnt (G 27 16, G 27 17, 0) 160).1 ≤ d.toInt64 * (mcw A2 a b c ncl cnt (G 27 16, G 27 17, 0) 160).2.1)))))
  refine go_blk (pc2 := 3) (L2 := [.ref 27, .int a, .int b, .int c, .int d]) (st2 := [.int c, .int b, .int a]) (M2 := (A, G, PF)) (hs2 := []) (C := True) [(.iload_n 1, 0, 0), (.iload_n 2, 0, 0), (.iload_n 3, 0, 0)] [] (by decide +kernel) rfl trivial ?_
  refine go_call (Y2 := mX6_isForm) (n2 := 39) (st := []) [] [.int a, .int b, .int c] ck_6_48 cwX6_isForm rfl (by decide +kernel) rfl (fun _ => rfl) (fun h => absurd rfl h) (Nat.le_of_ble_eq_true rfl) (Or.inl rfl) (fun _ _ _ h => h) (s_X6_isForm l A G a b c) (fun v M2 hp1 => ?_)
  obtain ⟨rfl, rfl⟩ := hp1
  rcases Classical.em (f9 a ∧ f9 b ∧ f9 c) with hb2 | hb2
  · rw [bi_t hb2]
    show Go l ro0 mX6_bounded 39 (A, G, PF) 6 [.ref 27, .int a, .int b, .int c, .int d] [.int 1] 39 _
    refine go_ifz (cnd := .eq) (off := 15) 21 (by decide +kernel) (by decide) (fun (h : (1 : Int32) = 0) => absurd h (by decide)) (fun _ => ?_)
    refine go_blk (pc2 := 15) (L2 := [.ref 27, .int a, .int b, .int c, .int d]) (st2 := [.int 99, .int (-99), .int d]) (M2 := (A, G, PF)) (hs2 := []) (C := True) [(.iload 4, 0, 0), (.bipush (-99), 0, 0), (.bipush 99, 0, 0)] [] (by decide +kernel) rfl trivial ?_
    refine go_call (Y2 := mX6_within) (n2 := 39) (st := []) [] [.int d, .int (-99), .int 99] ck_6_44 cwX6_within rfl (by decide +kernel) rfl (fun _ => rfl) (fun h => absurd rfl h) (Nat.le_of_ble_eq_true rfl) (Or.inl rfl) (fun _ _ _ h => h) (s_X6_within l A G d (-99) 99) (fun v M2 hp3 => ?_)
    obtain ⟨rfl, rfl⟩ := hp3
    rw [show (-99 ≤ d ∧ d ≤ 99) = f99 d from rfl]
    rcases Classical.em (f99 d) with hb4 | hb4
    · rw [bi_t hb4]
      show Go l ro0 mX6_bounded 39 (A, G, PF) 18 [.ref 27, .int a, .int b, .int c, .int d] [.int 1] 39 _
      refine go_ifz (cnd := .ne) (off := 5) 23 (by decide +kernel) (by decide) (fun _ => ?_) (fun (h : (1 : Int32) = 0) => absurd h (by decide))
      refine go_blk (pc2 := 27) (L2 := [.ref 27, .int a, .int b, .int c, .int d]) (st2 := [.int c, .int b, .int a, .ref 27]) (M2 := (A, G, PF)) (hs2 := []) (C := True) [(.aload_n 0, 0, 0), (.iload_n 1, 0, 0), (.iload_n 2, 0, 0), (.iload_n 3, 0, 0)] [] (by decide +kernel) rfl trivial ?_
      refine go_call (Y2 := mX6_climb) (n2 := 39) (st := []) [.ref 27] [.int a, .int b, .int c] ck_6_152 cwX6_climb rfl (by decide +kernel) rfl (fun h => absurd h (by decide)) (fun _ => ⟨27, rfl, by decide, rfl⟩) (Nat.le_of_ble_eq_true rfl) (Or.inl rfl) (fun _ _ _ h => h) (s_X6_climb l A G hL ncl hn hn8 hpt hkn a b c) (fun v M2 hp5 => ?_)
      obtain ⟨A2, cnt, G2, f, rfl, hC, hKn, hk1, hGI, f01, rfl⟩ := hp5
      show Go l ro0 mX6_bounded 39 (A2, G2, PF) 30 [.ref 27, .int a, .int b, .int c, .int d] [.int f] 39 _
      refine go_ifz (cnd := .eq) (off := 19) 49 (by decide +kernel) (by decide) (fun (c6 : f = 0) => ?_) (fun (c6 : ¬ f = 0) => ?_)
      · skip
        refine go_blk (pc2 := 50) (L2 := [.ref 27, .int a, .int b, .int c, .int d]) (st2 := [.int 1]) (M2 := (A2, G2, PF)) (hs2 := []) (C := True) [(.iconst 1, 0, 0)] [] (by decide +kernel) rfl trivial ?_
        refine go_goto (off := 4) 54 (by decide +kernel) (by decide) ?_
        exact go_retz (by decide +kernel) rfl (Or.inr rfl) (Or.inr ⟨⟨by assumption, by assumption⟩, A2, cnt, G2, rfl, hC, hKn, hk1, hGI.1, by rw [bi_t (by first | exact Or.inl (by rw [← hGI.2.2.2]; assumption) | exact Or.inr (by rw [← hGI.2.1, ← hGI.2.2.1]; exact Int64.not_lt.mp (by assumption)))]⟩)
      · skip
        refine go_blk (pc2 := 46) (L2 := [.ref 27, .int a, .int b, .int c, .int d]) (st2 := [.int (lg_cmp (G2 27 16) (d.toInt64 * (G2 27 17)))]) (M2 := (A2, G2, PF)) (hs2 := []) (C := True) [(.aload_n 0, 0, 0), (.getfield 143, 6, 16), (.iload 4, 0, 0), (.i2l, 0, 0), (.aload_n 0, 0, 0), (.getfield 139, 6, 17), (.lmul, 0, 0), (.lcmp, 0, 0)] [] (by decide +kernel) rfl trivial ?_
        refine go_ifz (cnd := .gt) (off := 7) 53 (by decide +kernel) (by decide) (fun (c7 : 0 < (lg_cmp (G2 27 16) (d.toInt64 * (G2 27 17)))) => ?_) (fun (c7 : ¬ 0 < (lg_cmp (G2 27 16) (d.toInt64 * (G2 27 17)))) => ?_)
        · skip
          replace c7 : (((d.toInt64 * (G2 27 17)) : Int64) < (G2 27 16)) := lg_gt.mp c7
          refine go_blk (pc2 := 54) (L2 := [.ref 27, .int a, .int b, .int c, .int d]) (st2 := [.int 0]) (M2 := (A2, G2, PF)) (hs2 := []) (C := True) [(.iconst 0, 0, 0)] [] (by decide +kernel) rfl trivial ?_
          exact go_retz (by decide +kernel) rfl (Or.inl rfl) (Or.inr ⟨⟨by assumption, by assumption⟩, A2, cnt, G2, rfl, hC, hKn, hk1, hGI.1, by rw [bi_f (fun zz => zz.elim (fun z => absurd (hGI.2.2.2.trans z) (by assumption)) (fun z => absurd z (by rw [← hGI.2.1, ← hGI.2.2.1]; exact Int64.not_le.mpr (by assumption))))]⟩)
        · skip
          replace c7 : ¬ (((d.toInt64 * (G2 27 17)) : Int64) < (G2 27 16)) := fun zz => c7 (lg_gt.mpr zz)
          refine go_blk (pc2 := 50) (L2 := [.ref 27, .int a, .int b, .int c, .int d]) (st2 := [.int 1]) (M2 := (A2, G2, PF)) (hs2 := []) (C := True) [(.iconst 1, 0, 0)] [] (by decide +kernel) rfl trivial ?_
          refine go_goto (off := 4) 54 (by decide +kernel) (by decide) ?_
          exact go_retz (by decide +kernel) rfl (Or.inr rfl) (Or.inr ⟨⟨by assumption, by assumption⟩, A2, cnt, G2, rfl, hC, hKn, hk1, hGI.1, by rw [bi_t (by first | exact Or.inl (by rw [← hGI.2.2.2]; assumption) | exact Or.inr (by rw [← hGI.2.1, ← hGI.2.2.1]; exact Int64.not_lt.mp (by assumption)))]⟩)
    · rw [bi_f hb4]
      show Go l ro0 mX6_bounded 39 (A, G, PF) 18 [.ref 27, .int a, .int b, .int c, .int d] [.int 0] 39 _
      refine go_ifz (cnd := .ne) (off := 5) 23 (by decide +kernel) (by decide) (fun (h : ¬ (0 : Int32) = 0) => absurd h (by decide)) (fun _ => ?_)
      refine go_blk (pc2 := 22) (L2 := [.ref 27, .int a, .int b, .int c, .int d]) (st2 := [.int 0]) (M2 := (A, G, PF)) (hs2 := []) (C := True) [(.iconst 0, 0, 0)] [] (by decide +kernel) rfl trivial ?_
      exact go_retz (by decide +kernel) rfl (Or.inl rfl) (Or.inl ⟨by rintro ⟨z1, z2⟩; contradiction, rfl, rfl⟩)
  · rw [bi_f hb2]
    show Go l ro0 mX6_bounded 39 (A, G, PF) 6 [.ref 27, .int a, .int b, .int c, .int d] [.int 0] 39 _
    refine go_ifz (cnd := .eq) (off := 15) 21 (by decide +kernel) (by decide) (fun _ => ?_) (fun (h : ¬ (0 : Int32) = 0) => absurd h (by decide))
    refine go_blk (pc2 := 22) (L2 := [.ref 27, .int a, .int b, .int c, .int d]) (st2 := [.int 0]) (M2 := (A, G, PF)) (hs2 := []) (C := True) [(.iconst 0, 0, 0)] [] (by decide +kernel) rfl trivial ?_
    exact go_retz (by decide +kernel) rfl (Or.inl rfl) (Or.inl ⟨by rintro ⟨z1, z2⟩; contradiction, rfl, rfl⟩)
def R18 (A A3 : Nat → Nat → Int32) : Prop := ∀ o k, ¬ (o = 27 ∧ k = 18) → A3 o k = A o k
theorem R18.row {A A3 : Nat → Nat → Int32} (h : R18 A A3) {o : Nat} (ho : o ≠ 27) : A3 o = A o := by
  funext k
  exact h o k (by omega)
theorem SatM_c {A A2 : Nat → Nat → Int32} (h30 : A2 30 = A 30) (s n : Nat) : SatM A2 s n = SatM A s n := by
  unfold SatM ClSM LitHM litM
  rw [h30]
theorem OpM_c {A A2 : Nat → Nat → Int32} (h19 : A2 27 19 = A 27 19) (h20 : A2 27 20 = A 27 20) (h33 : A2 33 = A 33) (h34 : A2 34 = A 34) (h35 : A2 35 = A 35) (h36 : A2 36 = A 36) (x pt bd : Int32) (up dn : Int64) (a b c : Int32) (cnt : Nat) : OpM A2 x pt bd up dn a b c cnt = OpM A x pt bd up dn a b c cnt := by
  have hg : gM A2 x pt bd up dn a b c = gM A x pt bd up dn a b c := by
    funext n
    unfold gM fitM cmpM vM
    rw [h19, h20, h33, h34, h35, h36]
  unfold OpM smf stf otf apf
  rw [hg, h19, h20, h34, h35, h36]
theorem u2_id {A : Nat → Nat → Int32} {o k : Nat} {v : Int32} (h : A o k = v) : u2 A o k v = A := by
  funext o2 k2
  by_cases e : o2 = o ∧ k2 = k
  · obtain ⟨rfl, rfl⟩ := e
    rw [u2_s, h]
  · exact u2_ne e
theorem open_id {A A3 : Nat → Nat → Int32} {cnt : Nat} (hC : MCache A cnt) (hR : R18 A A3) : u2 (u2 A3 27 19 (okf A3 1 5)) 27 20 (okf A3 2 5) = A3 := by
  have h28 := hR.row (o := 28) (by decide)
  have e1 : A3 27 19 = okf A3 1 5 := by rw [okf_c h28, hR 27 19 (by decide)]; exact hC.2.2.2.2.1.1
  have e2 : A3 27 20 = okf A3 2 5 := by rw [okf_c h28, hR 27 20 (by decide)]; exact hC.2.2.2.2.1.2
  rw [u2_id e1, u2_id e2]
noncomputable def rch (A : Nat → Nat → Int32) (a b c : Int32) (ncl cnt : Nat) (up dn : Int64) : Nat → Int32
  | 0 => 0
  | k + 1 => @ite Int32 (okc A ncl k) (Classical.propDecidable _) (rch A a b c ncl cnt up dn k ||| bi (OpM A (nI k / 5) (A 37 (k % 5)) 1 up dn a b c cnt)) (rch A a b c ncl cnt up dn k)
theorem rch_t {A : Nat → Nat → Int32} {a b c : Int32} {ncl cnt k : Nat} {up dn : Int64} (h : okc A ncl k) : rch A a b c ncl cnt up dn (k + 1) = (rch A a b c ncl cnt up dn k ||| bi (OpM A (nI k / 5) (A 37 (k % 5)) 1 up dn a b c cnt)) := if_pos h
theorem rch_f {A : Nat → Nat → Int32} {a b c : Int32} {ncl cnt k : Nat} {up dn : Int64} (h : ¬ okc A ncl k) : rch A a b c ncl cnt up dn (k + 1) = rch A a b c ncl cnt up dn k := if_neg h
theorem or01 {x y : Int32} (hx : x = 0 ∨ x = 1) (hy : y = 0 ∨ y = 1) : x ||| y = 0 ∨ x ||| y = 1 := by
  rcases hx with rfl | rfl <;> rcases hy with rfl | rfl <;> decide
theorem rch01 (A : Nat → Nat → Int32) (a b c : Int32) (ncl cnt : Nat) (up dn : Int64) (k : Nat) : rch A a b c ncl cnt up dn k = 0 ∨ rch A a b c ncl cnt up dn k = 1 := by
  induction k with
  | zero => exact Or.inl rfl
  | succ k ih =>
    rcases Classical.em (okc A ncl k) with q | q
    · rw [rch_t q]; exact or01 ih (bi_01 _)
    · rw [rch_f q]; exact ih
def mvM (x : Int32) : Int32 := if x = 0 then 1 else 2
set_option maxRecDepth 100000 in
set_option maxHeartbeats 4000000 in
theorem lp_X6_most (l : Launch) (A : Nat → Nat → Int32) (G : Nat → Nat → Int64) (hL : LitOkM A) (ncl : Nat) (hn : A 27 4 = nI ncl) (hn8 : ncl ≤ 8) (cnt : Nat) (hC : MCache A cnt) (a b c : Int32) : ∀ k, k ≤ 160 → ∀ A3, R18 A A3 → A3 27 18 = (rch A a b c ncl cnt (G 27 16) (G 27 17) k) → ∀ j5 : Value, Go l ro0 mX6_most 39 (A3, G, PF) 41 [.ref 27, .int a, .int b, .int c, .int (nI k), j5] [] 39 (fun r M2 => ∃ A3, M2 = (A3, (u2 (u2 G 27 21 (G 27 16)) 27 22 (G 27 17)), PF) ∧ R18 A A3 ∧ r = some (.int (mvM (rch A a b c ncl cnt (G 27 16) (G 27 17) 160)))) := by
  refine down 160 (fun k hk ih A3 hR hR2 j5 => ?_)
  refine go_blk (pc2 := 46) (L2 := [.ref 27, .int a, .int b, .int c, .int (nI k), j5]) (st2 := [.int 160, .int (nI k)]) (M2 := (A3, G, PF)) (hs2 := []) (C := True) [(.iload 4, 0, 0), (.sipush 160, 0, 0)] [] (by decide +kernel) rfl trivial ?_
  refine go_cmp (cnd := .ge) (off := 68) 114 (by decide +kernel) (by decide) (fun (c1 : 160 ≤ (nI k)) => ?_) (fun (c1 : ¬ 160 ≤ (nI k)) => ?_)
  · skip
    replace c1 : 160 ≤ k := (nx_le (a := 160) (b := k) rfl rfl (by omega) (by omega)).mp c1
    refine go_blk (pc2 := 134) (L2 := [.ref 27, .int a, .int b, .int c, .int (nI k), j5]) (st2 := [.int (A3 27 18)]) (M2 := (A3, (u2 (u2 G 27 21 (G 27 16)) 27 22 (G 27 17)), PF)) (hs2 := []) (C := True) [(.aload_n 0, 0, 0), (.aload_n 0, 0, 0), (.getfield 143, 6, 16), (.putfield 146, 6, 21), (.aload_n 0, 0, 0), (.aload_n 0, 0, 0), (.getfield 139, 6, 17), (.putfield 149, 6, 22), (.aload_n 0, 0, 0), (.getfield 155, 6, 18)] [] (by decide +kernel) rfl trivial ?_
    refine go_ifz (cnd := .eq) (off := 7) 141 (by decide +kernel) (by decide) (fun (c2 : (A3 27 18) = 0) => ?_) (fun (c2 : ¬ (A3 27 18) = 0) => ?_)
    · skip
      refine go_blk (pc2 := 142) (L2 := [.ref 27, .int a, .int b, .int c, .int (nI k), j5]) (st2 := [.int 1]) (M2 := (A3, (u2 (u2 G 27 21 (G 27 16)) 27 22 (G 27 17)), PF)) (hs2 := []) (C := True) [(.iconst 1, 0, 0)] [] (by decide +kernel) rfl trivial ?_
      exact go_reti (by decide +kernel) rfl (⟨A3, rfl, hR, by obtain rfl : k = 160 := (by omega); unfold mvM; rw [← hR2]; first | rw [if_pos (by assumption)] | rw [if_neg (by assumption)]⟩)
    · skip
      refine go_blk (pc2 := 138) (L2 := [.ref 27, .int a, .int b, .int c, .int (nI k), j5]) (st2 := [.int 2]) (M2 := (A3, (u2 (u2 G 27 21 (G 27 16)) 27 22 (G 27 17)), PF)) (hs2 := []) (C := True) [(.iconst 2, 0, 0)] [] (by decide +kernel) rfl trivial ?_
      refine go_goto (off := 4) 142 (by decide +kernel) (by decide) ?_
      exact go_reti (by decide +kernel) rfl (⟨A3, rfl, hR, by obtain rfl : k = 160 := (by omega); unfold mvM; rw [← hR2]; first | rw [if_pos (by assumption)] | rw [if_neg (by assumption)]⟩)
  · skip
    replace c1 : ¬ 160 ≤ k := fun zz => c1 ((nx_le (a := 160) (b := k) rfl rfl (by omega) (by omega)).mpr zz)
    refine go_blk (pc2 := 60) (L2 := [.ref 27, .int a, .int b, .int c, .int (nI k), .int (A3 38 k)]) (st2 := [.int (A3 38 k)]) (M2 := (A3, G, PF)) (hs2 := []) (C := ((nI k) = nI k ∧ k < 160) ∧ True) [(.aload_n 0, 0, 0), (.getfield 40, 6, 15), (.iload 4, 0, 0), (.baload, 0, 0), (.istore 5, 0, 0), (.iload 5, 0, 0)] [k] (by decide +kernel) rfl ⟨⟨rfl, by omega⟩, trivial⟩ ?_
    refine go_ifz (cnd := .eq) (off := 13) 73 (by decide +kernel) (by decide) (fun (c3 : (A3 38 k) = 0) => ?_) (fun (c3 : ¬ (A3 38 k) = 0) => ?_)
    · skip
      refine go_blk (pc2 := 75) (L2 := [.ref 27, .int a, .int b, .int c, .int (nI k), .int (A3 38 k)]) (st2 := [.int (A3 38 k)]) (M2 := (A3, G, PF)) (hs2 := []) (C := True) [(.iload 5, 0, 0)] [] (by decide +kernel) rfl trivial ?_
      refine go_ifz (cnd := .eq) (off := 33) 108 (by decide +kernel) (by decide) (fun (c4 : (A3 38 k) = 0) => ?_) (fun (c4 : ¬ (A3 38 k) = 0) => ?_)
      · skip
        refine go_blk (pc2 := 111) (L2 := [.ref 27, .int a, .int b, .int c, .int ((nI k) + 1), .int (A3 38 k)]) (st2 := []) (M2 := (A3, G, PF)) (hs2 := []) (C := True) [(.iinc 4 1, 0, 0)] [] (by decide +kernel) rfl trivial ?_
        refine go_goto (off := -70) 41 (by decide +kernel) (by decide) ?_
        have hg : ¬ okc A ncl k := fun zz => by first | exact zz.1 (by rw [← hR.row (o := 38) (by decide)]; assumption) | exact absurd zz.2 (by assumption)
        exact go_as (ih (by omega) A3 hR (by rw [rch_f hg]; exact hR2) (.int (A3 38 k))) rfl (by simp only [nI_1]) rfl
      · skip
        refine go_blk (pc2 := 101) (L2 := [.ref 27, .int a, .int b, .int c, .int (nI k), .int (A3 38 k)]) (st2 := [.int c, .int b, .int a, .int 1, .int (A3 37 (k % 5)), .int ((nI k) / 5), .ref 27, .int (A3 27 18), .ref 27]) (M2 := (A3, G, PF)) (hs2 := []) (C := (¬ 5 = 0) ∧ (¬ 5 = 0) ∧ (((nI k) - ((nI k) / 5) * 5) = nI (k % 5) ∧ (k % 5) < 5) ∧ True) [(.aload_n 0, 0, 0), (.dup, 0, 0), (.getfield 155, 6, 18), (.aload_n 0, 0, 0), (.iload 4, 0, 0), (.iconst 5, 0, 0), (.idiv, 0, 0), (.aload_n 0, 0, 0), (.getfield 37, 6, 14), (.iload 4, 0, 0), (.iconst 5, 0, 0), (.irem, 0, 0), (.iaload, 0, 0), (.iconst 1, 0, 0), (.iload_n 1, 0, 0), (.iload_n 2, 0, 0), (.iload_n 3, 0, 0)] [(k % 5)] (by decide +kernel) rfl ⟨by decide, by decide, ⟨((d5 k (by omega)).2), by omega⟩, trivial⟩ ?_
        refine go_call (Y2 := mX6_open) (n2 := 39) (st := [.int (A3 27 18), .ref 27]) [.ref 27] [.int ((nI k) / 5), .int (A3 37 (k % 5)), .int 1, .int a, .int b, .int c] ck_6_106 cwX6_open rfl (by decide +kernel) rfl (fun h => absurd h (by decide)) (fun _ => ⟨27, rfl, by decide, rfl⟩) (Nat.le_of_ble_eq_true rfl) (Or.inl rfl) (fun _ _ _ h => h) (s_X6_open l A3 G cnt (by rw [hR 27 13 (by decide)]; exact hC.2.1) hC.1 ((nI k) / 5) (A3 37 (k % 5)) 1 a b c) (fun v M2 hp5 => ?_)
        obtain ⟨rfl, rfl⟩ := hp5
        rw [open_id hC hR]
        rw [OpM_c (A := A) (hR 27 19 (by decide)) (hR 27 20 (by decide)) (hR.row (by decide)) (hR.row (by decide)) (hR.row (by decide)) (hR.row (by decide)), hR.row (o := 37) (by decide)]
        show Go l ro0 mX6_most 39 (A3, G, PF) 104 [.ref 27, .int a, .int b, .int c, .int (nI k), .int (A3 38 k)] [.int (bi (OpM A ((nI k) / 5) (A 37 (k % 5)) 1 (G 27 16) (G 27 17) a b c cnt)), .int (A3 27 18), .ref 27] 39 _
        refine go_blk (pc2 := 111) (L2 := [.ref 27, .int a, .int b, .int c, .int ((nI k) + 1), .int (A3 38 k)]) (st2 := []) (M2 := ((u2 A3 27 18 ((A3 27 18) ||| (bi (OpM A ((nI k) / 5) (A 37 (k % 5)) 1 (G 27 16) (G 27 17) a b c cnt)))), G, PF)) (hs2 := []) (C := (((A3 27 18) ||| (bi (OpM A ((nI k) / 5) (A 37 (k % 5)) 1 (G 27 16) (G 27 17) a b c cnt))) = 0 ∨ ((A3 27 18) ||| (bi (OpM A ((nI k) / 5) (A 37 (k % 5)) 1 (G 27 16) (G 27 17) a b c cnt))) = 1) ∧ True) [(.ior, 0, 0), (.putfield 155, 6, 18), (.iinc 4 1, 0, 0)] [] (by decide +kernel) rfl ⟨by rw [hR2]; exact or01 (rch01 A a b c ncl cnt _ _ k) (bi_01 _), trivial⟩ ?_
        refine go_goto (off := -70) 41 (by decide +kernel) (by decide) ?_
        have hg : okc A ncl k := by first | contradiction | exact ⟨by rw [← hR.row (o := 38) (by decide)]; assumption, by assumption⟩
        exact go_as (ih (by omega) (u2 A3 27 18 ((A3 27 18) ||| (bi (OpM A ((nI k) / 5) (A 37 (k % 5)) 1 (G 27 16) (G 27 17) a b c cnt)))) (fun o k2 ho => by rw [u2_ne (by omega)]; exact hR o k2 ho) (by rw [u2_s, hR2, rch_t hg]) (.int (A3 38 k))) rfl (by simp only [nI_1]) rfl
    · skip
      refine go_blk (pc2 := 68) (L2 := [.ref 27, .int a, .int b, .int c, .int (nI k), .int (A3 38 k)]) (st2 := [.int ((nI k) / 5), .ref 27]) (M2 := (A3, G, PF)) (hs2 := []) (C := (¬ 5 = 0) ∧ True) [(.aload_n 0, 0, 0), (.iload 4, 0, 0), (.iconst 5, 0, 0), (.idiv, 0, 0)] [] (by decide +kernel) rfl ⟨by decide, trivial⟩ ?_
      refine go_call (Y2 := mX6_satisfies) (n2 := 39) (st := []) [.ref 27] [.int ((nI k) / 5)] ck_6_133 cwX6_satisfies rfl (by decide +kernel) rfl (fun h => absurd h (by decide)) (fun _ => ⟨27, rfl, by decide, rfl⟩) (Nat.le_of_ble_eq_true rfl) (Or.inl rfl) (fun _ _ _ h => h) (by rw [(d5 k (by omega)).1]; exact s_X6_satisfies l A3 G (by simpa only [LitOkM, litM, hR.row (o := 30) (by decide)] using hL) ncl (by rw [hR 27 4 (by decide)]; exact hn) hn8 (k / 5) (by omega)) (fun v M2 hp6 => ?_)
      obtain ⟨rfl, rfl⟩ := hp6
      rw [SatM_c (A := A) (hR.row (by decide))]
      rcases Classical.em (SatM A (k / 5) ncl) with hb7 | hb7
      · rw [bi_t hb7]
        show Go l ro0 mX6_most 39 (A3, G, PF) 71 [.ref 27, .int a, .int b, .int c, .int (nI k), .int (A3 38 k)] [.int 1] 39 _
        refine go_blk (pc2 := 75) (L2 := [.ref 27, .int a, .int b, .int c, .int (nI k), .int 1]) (st2 := [.int 1]) (M2 := (A3, G, PF)) (hs2 := []) (C := True) [(.istore 5, 0, 0), (.iload 5, 0, 0)] [] (by decide +kernel) rfl trivial ?_
        refine go_ifz (cnd := .eq) (off := 33) 108 (by decide +kernel) (by decide) (fun (h : (1 : Int32) = 0) => absurd h (by decide)) (fun _ => ?_)
        refine go_blk (pc2 := 101) (L2 := [.ref 27, .int a, .int b, .int c, .int (nI k), .int 1]) (st2 := [.int c, .int b, .int a, .int 1, .int (A3 37 (k % 5)), .int ((nI k) / 5), .ref 27, .int (A3 27 18), .ref 27]) (M2 := (A3, G, PF)) (hs2 := []) (C := (¬ 5 = 0) ∧ (¬ 5 = 0) ∧ (((nI k) - ((nI k) / 5) * 5) = nI (k % 5) ∧ (k % 5) < 5) ∧ True) [(.aload_n 0, 0, 0), (.dup, 0, 0), (.getfield 155, 6, 18), (.aload_n 0, 0, 0), (.iload 4, 0, 0), (.iconst 5, 0, 0), (.idiv, 0, 0), (.aload_n 0, 0, 0), (.getfield 37, 6, 14), (.iload 4, 0, 0), (.iconst 5, 0, 0), (.irem, 0, 0), (.iaload, 0, 0), (.iconst 1, 0, 0), (.iload_n 1, 0, 0), (.iload_n 2, 0, 0), (.iload_n 3, 0, 0)] [(k % 5)] (by decide +kernel) rfl ⟨by decide, by decide, ⟨((d5 k (by omega)).2), by omega⟩, trivial⟩ ?_
        refine go_call (Y2 := mX6_open) (n2 := 39) (st := [.int (A3 27 18), .ref 27]) [.ref 27] [.int ((nI k) / 5), .int (A3 37 (k % 5)), .int 1, .int a, .int b, .int c] ck_6_106 cwX6_open rfl (by decide +kernel) rfl (fun h => absurd h (by decide)) (fun _ => ⟨27, rfl, by decide, rfl⟩) (Nat.le_of_ble_eq_true rfl) (Or.inl rfl) (fun _ _ _ h => h) (s_X6_open l A3 G cnt (by rw [hR 27 13 (by decide)]; exact hC.2.1) hC.1 ((nI k) / 5) (A3 37 (k % 5)) 1 a b c) (fun v M2 hp8 => ?_)
        obtain ⟨rfl, rfl⟩ := hp8
        rw [open_id hC hR]
        rw [OpM_c (A := A) (hR 27 19 (by decide)) (hR 27 20 (by decide)) (hR.row (by decide)) (hR.row (by decide)) (hR.row (by decide)) (hR.row (by decide)), hR.row (o := 37) (by decide)]
        show Go l ro0 mX6_most 39 (A3, G, PF) 104 [.ref 27, .int a, .int b, .int c, .int (nI k), .int 1] [.int (bi (OpM A ((nI k) / 5) (A 37 (k % 5)) 1 (G 27 16) (G 27 17) a b c cnt)), .int (A3 27 18), .ref 27] 39 _
        refine go_blk (pc2 := 111) (L2 := [.ref 27, .int a, .int b, .int c, .int ((nI k) + 1), .int 1]) (st2 := []) (M2 := ((u2 A3 27 18 ((A3 27 18) ||| (bi (OpM A ((nI k) / 5) (A 37 (k % 5)) 1 (G 27 16) (G 27 17) a b c cnt)))), G, PF)) (hs2 := []) (C := (((A3 27 18) ||| (bi (OpM A ((nI k) / 5) (A 37 (k % 5)) 1 (G 27 16) (G 27 17) a b c cnt))) = 0 ∨ ((A3 27 18) ||| (bi (OpM A ((nI k) / 5) (A 37 (k % 5)) 1 (G 27 16) (G 27 17) a b c cnt))) = 1) ∧ True) [(.ior, 0, 0), (.putfield 155, 6, 18), (.iinc 4 1, 0, 0)] [] (by decide +kernel) rfl ⟨by rw [hR2]; exact or01 (rch01 A a b c ncl cnt _ _ k) (bi_01 _), trivial⟩ ?_
        refine go_goto (off := -70) 41 (by decide +kernel) (by decide) ?_
        have hg : okc A ncl k := by first | contradiction | exact ⟨by rw [← hR.row (o := 38) (by decide)]; assumption, by assumption⟩
        exact go_as (ih (by omega) (u2 A3 27 18 ((A3 27 18) ||| (bi (OpM A ((nI k) / 5) (A 37 (k % 5)) 1 (G 27 16) (G 27 17) a b c cnt)))) (fun o k2 ho => by rw [u2_ne (by omega)]; exact hR o k2 ho) (by rw [u2_s, hR2, rch_t hg]) (.int 1)) rfl (by simp only [nI_1]) rfl
      · rw [bi_f hb7]
        show Go l ro0 mX6_most 39 (A3, G, PF) 71 [.ref 27, .int a, .int b, .int c, .int (nI k), .int (A3 38 k)] [.int 0] 39 _
        refine go_blk (pc2 := 75) (L2 := [.ref 27, .int a, .int b, .int c, .int (nI k), .int 0]) (st2 := [.int 0]) (M2 := (A3, G, PF)) (hs2 := []) (C := True) [(.istore 5, 0, 0), (.iload 5, 0, 0)] [] (by decide +kernel) rfl trivial ?_
        refine go_ifz (cnd := .eq) (off := 33) 108 (by decide +kernel) (by decide) (fun _ => ?_) (fun (h : ¬ (0 : Int32) = 0) => absurd h (by decide))
        refine go_blk (pc2 := 111) (L2 := [.ref 27, .int a, .int b, .int c, .int ((nI k) + 1), .int 0]) (st2 := []) (M2 := (A3, G, PF)) (hs2 := []) (C := True) [(.iinc 4 1, 0, 0)] [] (by decide +kernel) rfl trivial ?_
        refine go_goto (off := -70) 41 (by decide +kernel) (by decide) ?_
        have hg : ¬ okc A ncl k := fun zz => by first | exact zz.1 (by rw [← hR.row (o := 38) (by decide)]; assumption) | exact absurd zz.2 (by assumption)
        exact go_as (ih (by omega) A3 hR (by rw [rch_f hg]; exact hR2) (.int 0)) rfl (by simp only [nI_1]) rfl
set_option maxRecDepth 100000 in
set_option maxHeartbeats 4000000 in
theorem s_X6_most (l : Launch) (A : Nat → Nat → Int32) (G : Nat → Nat → Int64) (hL : LitOkM A) (ncl : Nat) (hn : A 27 4 = nI ncl) (hn8 : ncl ≤ 8) (hpt : ∀ p, p < 5 → A 37 p = nI (part p)) (hkn : ¬ A 27 6 = 0 → A 27 6 = 1 ∧ ∃ cnt, MCache A cnt) (a b c : Int32) : Sem l mX6_most [.ref 27, .int a, .int b, .int c] 39 (A, G, PF) 39 (fun r M2 => (¬ (f9 a ∧ f9 b ∧ f9 c) ∧ r = some (.int (-1)) ∧ M2 = (A, G, PF)) ∨ ((f9 a ∧ f9 b ∧ f9 c) ∧ ∃ A2 cnt A3 G3, M2 = (A3, G3, PF) ∧ MCache A2 cnt ∧ KnF A A2 ∧ A2 27 6 = 1 ∧ R18 A2 A3 ∧ (∀ o k, ¬ (o = 27 ∧ (k = 16 ∨ k = 17 ∨ k = 21 ∨ k = 22)) → G3 o k = G o k) ∧ (((mcw A2 a b c ncl cnt (G 27 16, G 27 17, 0) 160).2.2 = 0 ∧ r = some (.int 0) ∧ G3 27 21 = 0 ∧ G3 27 22 = 0) ∨ ((mcw A2 a b c ncl cnt (G 27 16, G 27 17, 0) 160).2.2 = 1 ∧ r = some (.int (mvM (rch A2 a b c ncl cnt (mcw A2 a b c ncl cnt (G 27 16, G 27 17, 0) 160).1 (mcw A2 a b c ncl cnt (G 27 16, G 27 17, 0) 160).2.1 160))) ∧ G3 27 21 = (mcw A2 a b c ncl cnt (G 27 16, G 27 17, 0) 160).1 ∧ G3 27 22 = (mcw A2 a b c ncl cnt (G 27 16, G 27 17, 0) 160).2.1)))) := by
  refine sem_of_go (by decide) rfl (by decide) (by decide) rfl (Nat.le_of_ble_eq_true rfl) ?_
  show Go l ro0 mX6_most 39 (A, G, PF) 0 [.ref 27, .int a, .int b, .int c, .null, .null] [] 39 (fun r M2 => (¬ (f9 a ∧ f9 b ∧ f9 c) ∧ r = some (.int (-1)) ∧ M2 = (A, G, PF)) ∨ ((f9 a ∧ f9 b ∧ f9 c) ∧ ∃ A2 cnt A3 G3, M2 = (A3, G3, PF) ∧ MCache A2 cnt ∧ KnF A A2 ∧ A2 27 6 = 1 ∧ R18 A2 A3 ∧ (∀ o k, ¬ (o = 27 ∧ (k = 16 ∨ k = 17 ∨ k = 21 ∨ k = 22)) → G3 o k = G o k) ∧ (((mcw A2 a b c ncl cnt (G 27 16, G 27 17, 0) 160).2.2 = 0 ∧ r = some (.int 0) ∧ G3 27 21 = 0 ∧ G3 27 22 = 0) ∨ ((mcw A2 a b c ncl cnt (G 27 16, G 27 17, 0) 160).2.2 = 1 ∧ r = some (.int (mvM (rch A2 a b c ncl cnt (mcw A2 a b c ncl cnt (G 27 16, G 27 17, 0) 160).1 (mcw A2 a b c ncl cnt (G 27 16, G 27 17, 0) 160).2.1 160))) ∧ G3 27 21 = (mcw A2 a b c ncl cnt (G 27 16, G 27 17, 0) 160).1 ∧ G3 27 22 = (mcw A2 a b c ncl cnt (G 27 16, G 27 17, 0) 160).2.1))))
  refine go_blk (pc2 := 3) (L2 := [.ref 27, .int a, .int b, .int c, .null, .null]) (st2 := [.int c, .int b, .int a]) (M2 := (A, G, PF)) (hs2 := []) (C := True) [(.iload_n 1, 0, 0), (.iload_n 2, 0, 0), (.iload_n 3, 0, 0)] [] (by decide +kernel) rfl trivial ?_
  refine go_call (Y2 := mX6_isForm) (n2 := 39) (st := []) [] [.int a, .int b, .int c] ck_6_48 cwX6_isForm rfl (by decide +kernel) rfl (fun _ => rfl) (fun h => absurd rfl h) (Nat.le_of_ble_eq_true rfl) (Or.inl rfl) (fun _ _ _ h => h) (s_X6_isForm l A G a b c) (fun v M2 hp1 => ?_)
  obtain ⟨rfl, rfl⟩ := hp1
  rcases Classical.em (f9 a ∧ f9 b ∧ f9 c) with hb2 | hb2
  · rw [bi_t hb2]
    show Go l ro0 mX6_most 39 (A, G, PF) 6 [.ref 27, .int a, .int b, .int c, .null, .null] [.int 1] 39 _
    refine go_ifz (cnd := .ne) (off := 5) 11 (by decide +kernel) (by decide) (fun _ => ?_) (fun (h : (1 : Int32) = 0) => absurd h (by decide))
    refine go_blk (pc2 := 25) (L2 := [.ref 27, .int a, .int b, .int c, .null, .null]) (st2 := [.int c, .int b, .int a, .ref 27]) (M2 := (A, (u2 (u2 G 27 21 0) 27 22 0), PF)) (hs2 := []) (C := True) [(.aload_n 0, 0, 0), (.lconst 0, 0, 0), (.putfield 146, 6, 21), (.aload_n 0, 0, 0), (.lconst 0, 0, 0), (.putfield 149, 6, 22), (.aload_n 0, 0, 0), (.iload_n 1, 0, 0), (.iload_n 2, 0, 0), (.iload_n 3, 0, 0)] [] (by decide +kernel) rfl trivial ?_
    refine go_call (Y2 := mX6_climb) (n2 := 39) (st := []) [.ref 27] [.int a, .int b, .int c] ck_6_152 cwX6_climb rfl (by decide +kernel) rfl (fun h => absurd h (by decide)) (fun _ => ⟨27, rfl, by decide, rfl⟩) (Nat.le_of_ble_eq_true rfl) (Or.inl rfl) (fun _ _ _ h => h) (s_X6_climb l A (u2 (u2 G 27 21 0) 27 22 0) hL ncl hn hn8 hpt hkn a b c) (fun v M2 hp3 => ?_)
    obtain ⟨A2, cnt, G2, f, rfl, hC, hKn, hk1, hGI, f01, rfl⟩ := hp3
    have hGI2 : mcw A2 a b c ncl cnt ((u2 (u2 G 27 21 0) 27 22 0) 27 16, (u2 (u2 G 27 21 0) 27 22 0) 27 17, 0) 160 = (mcw A2 a b c ncl cnt (G 27 16, G 27 17, 0) 160) := by rw [show (u2 (u2 G 27 21 0) 27 22 0) 27 16 = G 27 16 from by rw [u2_k (by decide), u2_k (by decide)], show (u2 (u2 G 27 21 0) 27 22 0) 27 17 = G 27 17 from by rw [u2_k (by decide), u2_k (by decide)]]
    show Go l ro0 mX6_most 39 (A2, G2, PF) 28 [.ref 27, .int a, .int b, .int c, .null, .null] [.int f] 39 _
    refine go_ifz (cnd := .ne) (off := 5) 33 (by decide +kernel) (by decide) (fun (c4 : ¬ f = 0) => ?_) (fun (c4 : f = 0) => ?_)
    · skip
      refine go_blk (pc2 := 41) (L2 := [.ref 27, .int a, .int b, .int c, .int 0, .null]) (st2 := []) (M2 := ((u2 A2 27 18 0), G2, PF)) (hs2 := []) (C := (0 = 0 ∨ 0 = 1) ∧ True) [(.aload_n 0, 0, 0), (.iconst 0, 0, 0), (.putfield 155, 6, 18), (.iconst 0, 0, 0), (.istore 4, 0, 0)] [] (by decide +kernel) rfl ⟨Or.inl rfl, trivial⟩ ?_
      refine Go.mono (lp_X6_most l A2 G2 (hL.kn hKn) ncl (hKn.n.trans hn) hn8 cnt hC a b c 0 (by omega) _ (fun o k ho => u2_ne (by omega)) u2_s _) ?_
      rintro _ _ ⟨A3, rfl, hR, rfl⟩
      have hf1 : f = 1 := f01.elim (fun z => absurd z (by assumption)) id
      exact Or.inr ⟨by assumption, A2, cnt, A3, _, rfl, hC, hKn, hk1, hR, fun o k ho => by rw [u2_ne (by omega), u2_ne (by omega), hGI.1 o k (by omega), u2_ne (by omega), u2_ne (by omega)], Or.inr ⟨by rw [← hGI2, ← hGI.2.2.2]; exact hf1, by rw [← hGI2, ← hGI.2.1, ← hGI.2.2.1], by rw [u2_k (by decide), u2_s, hGI.2.1, hGI2], by rw [u2_s, hGI.2.2.1, hGI2]⟩⟩
    · skip
      refine go_blk (pc2 := 32) (L2 := [.ref 27, .int a, .int b, .int c, .null, .null]) (st2 := [.int 0]) (M2 := (A2, G2, PF)) (hs2 := []) (C := True) [(.iconst 0, 0, 0)] [] (by decide +kernel) rfl trivial ?_
      exact go_reti (by decide +kernel) rfl (Or.inr ⟨by assumption, A2, cnt, A2, G2, rfl, hC, hKn, hk1, fun _ _ _ => rfl, fun o k ho => by rw [hGI.1 o k (by omega), u2_ne (by omega), u2_ne (by omega)], Or.inl ⟨by rw [← hGI2, ← hGI.2.2.2]; assumption, rfl, by rw [hGI.1 27 21 (by decide), u2_k (by decide), u2_s], by rw [hGI.1 27 22 (by decide), u2_s]⟩⟩)
  · rw [bi_f hb2]
    show Go l ro0 mX6_most 39 (A, G, PF) 6 [.ref 27, .int a, .int b, .int c, .null, .null] [.int 0] 39 _
    refine go_ifz (cnd := .ne) (off := 5) 11 (by decide +kernel) (by decide) (fun (h : ¬ (0 : Int32) = 0) => absurd h (by decide)) (fun _ => ?_)
    refine go_blk (pc2 := 10) (L2 := [.ref 27, .int a, .int b, .int c, .null, .null]) (st2 := [.int (-1)]) (M2 := (A, G, PF)) (hs2 := []) (C := True) [(.iconst (-1), 0, 0)] [] (by decide +kernel) rfl trivial ?_
    exact go_reti (by decide +kernel) rfl (Or.inl ⟨by assumption, rfl, rfl⟩)
set_option maxRecDepth 100000 in
set_option maxHeartbeats 4000000 in
theorem lp_X6_divisor (l : Launch) (A : Nat → Nat → Int32) (G : Nat → Nat → Int64) (f g : Int64) (h0 w0 : Nat) : ∀ r w1 h1 : Nat, w1 < r → w1 < 2 ^ 62 → h1 < 2 ^ 62 → Nat.gcd w1 h1 = Nat.gcd h0 w0 → ∀ j1 j2 : Value, Go l ro0 mX6_divisor 39 (A, G, PF) 17 [.long f, .null, .long g, .null, .long (lN w1), .null, .long (lN h1), .null, j1, j2] [] 39 (pl (lN (Nat.gcd h0 w0)) (A, G, PF)) := by
  intro r
  induction r with
  | zero => intro w1 h1 q; omega
  | succ r ih =>
    intro w1 h1 hwr hw hh hgc j1 j2
    refine go_blk (pc2 := 21) (L2 := [.long f, .null, .long g, .null, .long (lN w1), .null, .long (lN h1), .null, j1, j2]) (st2 := [.int (lg_cmp (lN w1) 0)]) (M2 := (A, G, PF)) (hs2 := []) (C := True) [(.lload 4, 0, 0), (.lconst 0, 0, 0), (.lcmp, 0, 0)] [] (by decide +kernel) rfl trivial ?_
    refine go_ifz (cnd := .le) (off := 21) 42 (by decide +kernel) (by decide) (fun (c1 : (lg_cmp (lN w1) 0) ≤ 0) => ?_) (fun (c1 : ¬ (lg_cmp (lN w1) 0) ≤ 0) => ?_)
    · skip
      replace c1 : ¬ (0 : Int64) < (lN w1) := lg_le2.mp c1
      replace c1 : ¬ 0 < w1 := fun zz => c1 ((lN_pos (by omega)).mpr zz)
      refine go_blk (pc2 := 44) (L2 := [.long f, .null, .long g, .null, .long (lN w1), .null, .long (lN h1), .null, j1, j2]) (st2 := [.long (lN h1)]) (M2 := (A, G, PF)) (hs2 := []) (C := True) [(.lload 6, 0, 0)] [] (by decide +kernel) rfl trivial ?_
      exact go_retl (by decide +kernel) rfl (ple (by rw [← hgc, show w1 = 0 by omega, Nat.gcd_zero_left]))
    · skip
      replace c1 : (0 : Int64) < (lN w1) := Classical.byContradiction (fun zz => c1 (lg_le2.mpr zz))
      have hw0 : 0 < w1 := (lN_pos (by omega)).mp c1
      have hx1 : h1 % w1 < w1 := Nat.mod_lt _ hw0
      refine go_blk (pc2 := 39) (L2 := [.long f, .null, .long g, .null, .long ((lN h1) - ((lN h1) / (lN w1)) * (lN w1)), .null, .long (lN w1), .null, .long ((lN h1) - ((lN h1) / (lN w1)) * (lN w1)), .null]) (st2 := []) (M2 := (A, G, PF)) (hs2 := []) (C := (¬ (lN w1) = 0) ∧ True) [(.lload 6, 0, 0), (.lload 4, 0, 0), (.lrem, 0, 0), (.lstore 8, 0, 0), (.lload 4, 0, 0), (.lstore 6, 0, 0), (.lload 8, 0, 0), (.lstore 4, 0, 0)] [] (by decide +kernel) rfl ⟨lN_ne (by omega) hw0, trivial⟩ ?_
      refine go_goto (off := -22) 17 (by decide +kernel) (by decide) ?_
      exact go_as (ih (h1 % w1) w1 (by omega) (by omega) (by omega) (by rw [← hgc]; exact (Nat.gcd_rec w1 h1).symm) (.long ((lN h1) - ((lN h1) / (lN w1)) * (lN w1))) (.null)) rfl (by rw [pk_lRem (by omega) hw0 (by omega)]) rfl
set_option maxRecDepth 100000 in
set_option maxHeartbeats 4000000 in
theorem s_X6_divisor (l : Launch) (A : Nat → Nat → Int32) (G : Nat → Nat → Int64) (f : Int64) (h0 w0 : Nat) (hf : (if f < 0 then -f else f) = lN h0) (hh0 : h0 < 2 ^ 62) (hw1 : w0 < 2 ^ 62) : Sem l mX6_divisor [.long f, .long (lN w0)] 39 (A, G, PF) 39 (pl (lN (Nat.gcd h0 w0)) (A, G, PF)) := by
  refine sem_of_go (by decide) rfl (by decide) (by decide) rfl (Nat.le_of_ble_eq_true rfl) ?_
  show Go l ro0 mX6_divisor 39 (A, G, PF) 0 [.long f, .null, .long (lN w0), .null, .null, .null, .null, .null, .null, .null] [] 39 (pl (lN (Nat.gcd h0 w0)) (A, G, PF))
  refine go_blk (pc2 := 3) (L2 := [.long f, .null, .long (lN w0), .null, .null, .null, .null, .null, .null, .null]) (st2 := [.int (lg_cmp f 0)]) (M2 := (A, G, PF)) (hs2 := []) (C := True) [(.lload_n 0, 0, 0), (.lconst 0, 0, 0), (.lcmp, 0, 0)] [] (by decide +kernel) rfl trivial ?_
  refine go_ifz (cnd := .ge) (off := 8) 11 (by decide +kernel) (by decide) (fun (c1 : 0 ≤ (lg_cmp f 0)) => ?_) (fun (c1 : ¬ 0 ≤ (lg_cmp f 0)) => ?_)
  · skip
    replace c1 : ¬ (f : Int64) < 0 := lg_ge2.mp c1
    rw [if_neg c1] at hf
    refine go_blk (pc2 := 17) (L2 := [.long f, .null, .long (lN w0), .null, .long f, .null, .long (lN w0), .null, .null, .null]) (st2 := []) (M2 := (A, G, PF)) (hs2 := []) (C := True) [(.lload_n 0, 0, 0), (.lstore 4, 0, 0), (.lload_n 2, 0, 0), (.lstore 6, 0, 0)] [] (by decide +kernel) rfl trivial ?_
    exact go_as (lp_X6_divisor l A G f (lN w0) h0 w0 (h0 + 1) h0 w0 (by omega) (by omega) (by omega) rfl _ _) rfl (by rw [hf]) rfl
  · skip
    replace c1 : (f : Int64) < 0 := Classical.byContradiction (fun zz => c1 (lg_ge2.mpr zz))
    rw [if_pos c1] at hf
    refine go_blk (pc2 := 8) (L2 := [.long f, .null, .long (lN w0), .null, .null, .null, .null, .null, .null, .null]) (st2 := [.long (-f)]) (M2 := (A, G, PF)) (hs2 := []) (C := True) [(.lload_n 0, 0, 0), (.lneg, 0, 0)] [] (by decide +kernel) rfl trivial ?_
    refine go_goto (off := 4) 12 (by decide +kernel) (by decide) ?_
    refine go_blk (pc2 := 17) (L2 := [.long f, .null, .long (lN w0), .null, .long (-f), .null, .long (lN w0), .null, .null, .null]) (st2 := []) (M2 := (A, G, PF)) (hs2 := []) (C := True) [(.lstore 4, 0, 0), (.lload_n 2, 0, 0), (.lstore 6, 0, 0)] [] (by decide +kernel) rfl trivial ?_
    exact go_as (lp_X6_divisor l A G f (lN w0) h0 w0 (h0 + 1) h0 w0 (by omega) (by omega) (by omega) rfl _ _) rfl (by rw [hf]) rfl
def topM (G : Nat → Nat → Int64) (x : Int32) (h0 w0 : Nat) : Int64 := if x = 0 then G 27 21 / lN (Nat.gcd h0 w0) else G 27 22 / lN (Nat.gcd h0 w0)
set_option maxRecDepth 100000 in
set_option maxHeartbeats 4000000 in
theorem s_X6_top (l : Launch) (A : Nat → Nat → Int32) (G : Nat → Nat → Int64) (x : Int32) (hnum : ¬ G 27 22 = 0 → ∃ h0 w0, (if G 27 21 < 0 then -(G 27 21) else G 27 21) = lN h0 ∧ h0 < 2 ^ 62 ∧ w0 < 2 ^ 62 ∧ G 27 22 = lN w0 ∧ 0 < w0) : Sem l mX6_top [.ref 27, .int x] 39 (A, G, PF) 39 (fun r M2 => ((G 27 22 = 0 ∨ ¬ (0 ≤ x ∧ x ≤ 1)) ∧ r = some (.long 0) ∧ M2 = (A, G, PF)) ∨ (¬ G 27 22 = 0 ∧ (0 ≤ x ∧ x ≤ 1) ∧ ∃ h0 w0, (if G 27 21 < 0 then -(G 27 21) else G 27 21) = lN h0 ∧ h0 < 2 ^ 62 ∧ w0 < 2 ^ 62 ∧ G 27 22 = lN w0 ∧ 0 < w0 ∧ M2 = (A, G, PF) ∧ r = some (.long (topM G x h0 w0)))) := by
  refine sem_of_go (by decide) rfl (by decide) (by decide) rfl (Nat.le_of_ble_eq_true rfl) ?_
  show Go l ro0 mX6_top 39 (A, G, PF) 0 [.ref 27, .int x, .null, .null] [] 39 (fun r M2 => ((G 27 22 = 0 ∨ ¬ (0 ≤ x ∧ x ≤ 1)) ∧ r = some (.long 0) ∧ M2 = (A, G, PF)) ∨ (¬ G 27 22 = 0 ∧ (0 ≤ x ∧ x ≤ 1) ∧ ∃ h0 w0, (if G 27 21 < 0 then -(G 27 21) else G 27 21) = lN h0 ∧ h0 < 2 ^ 62 ∧ w0 < 2 ^ 62 ∧ G 27 22 = lN w0 ∧ 0 < w0 ∧ M2 = (A, G, PF) ∧ r = some (.long (topM G x h0 w0))))
  refine go_blk (pc2 := 6) (L2 := [.ref 27, .int x, .null, .null]) (st2 := [.int (lg_cmp (G 27 22) 0)]) (M2 := (A, G, PF)) (hs2 := []) (C := True) [(.aload_n 0, 0, 0), (.getfield 149, 6, 22), (.lconst 0, 0, 0), (.lcmp, 0, 0)] [] (by decide +kernel) rfl trivial ?_
  refine go_ifz (cnd := .eq) (off := 12) 18 (by decide +kernel) (by decide) (fun (c1 : (lg_cmp (G 27 22) 0) = 0) => ?_) (fun (c1 : ¬ (lg_cmp (G 27 22) 0) = 0) => ?_)
  · skip
    replace c1 : ((G 27 22 : Int64) = 0) := lg_eq.mp c1
    refine go_blk (pc2 := 19) (L2 := [.ref 27, .int x, .null, .null]) (st2 := [.long 0]) (M2 := (A, G, PF)) (hs2 := []) (C := True) [(.lconst 0, 0, 0)] [] (by decide +kernel) rfl trivial ?_
    exact go_retl (by decide +kernel) rfl (Or.inl ⟨by first | exact Or.inl (by assumption) | exact Or.inr (by assumption), rfl, rfl⟩)
  · skip
    replace c1 : ¬ ((G 27 22 : Int64) = 0) := fun zz => c1 (lg_eq.mpr zz)
    obtain ⟨h0, w0, hf, hh0, hw1, hw, hwp⟩ := hnum c1
    have hg0 : 0 < Nat.gcd h0 w0 := Nat.gcd_pos_of_pos_right _ hwp
    have hg1 : Nat.gcd h0 w0 ≤ w0 := Nat.gcd_le_right _ hwp
    refine go_blk (pc2 := 12) (L2 := [.ref 27, .int x, .null, .null]) (st2 := [.int 1, .int 0, .int x]) (M2 := (A, G, PF)) (hs2 := []) (C := True) [(.iload_n 1, 0, 0), (.iconst 0, 0, 0), (.iconst 1, 0, 0)] [] (by decide +kernel) rfl trivial ?_
    refine go_call (Y2 := mX6_within) (n2 := 39) (st := []) [] [.int x, .int 0, .int 1] ck_6_44 cwX6_within rfl (by decide +kernel) rfl (fun _ => rfl) (fun h => absurd rfl h) (Nat.le_of_ble_eq_true rfl) (Or.inl rfl) (fun _ _ _ h => h) (s_X6_within l A G x 0 1) (fun v M2 hp2 => ?_)
    obtain ⟨rfl, rfl⟩ := hp2
    rcases Classical.em (0 ≤ x ∧ x ≤ 1) with hb3 | hb3
    · rw [bi_t hb3]
      show Go l ro0 mX6_top 39 (A, G, PF) 15 [.ref 27, .int x, .null, .null] [.int 1] 39 _
      refine go_ifz (cnd := .ne) (off := 5) 20 (by decide +kernel) (by decide) (fun _ => ?_) (fun (h : (1 : Int32) = 0) => absurd h (by decide))
      refine go_blk (pc2 := 28) (L2 := [.ref 27, .int x, .null, .null]) (st2 := [.long (G 27 22), .long (G 27 21)]) (M2 := (A, G, PF)) (hs2 := []) (C := True) [(.aload_n 0, 0, 0), (.getfield 146, 6, 21), (.aload_n 0, 0, 0), (.getfield 149, 6, 22)] [] (by decide +kernel) rfl trivial ?_
      refine go_call (Y2 := mX6_divisor) (n2 := 39) (st := []) [] [.long (G 27 21), .long (G 27 22)] ck_6_158 cwX6_divisor rfl (by decide +kernel) rfl (fun _ => rfl) (fun h => absurd rfl h) (Nat.le_of_ble_eq_true rfl) (Or.inl rfl) (fun _ _ _ h => h) (by rw [hw]; exact s_X6_divisor l A G (G 27 21) h0 w0 hf hh0 hw1) (fun v M2 hp4 => ?_)
      obtain ⟨rfl, rfl⟩ := hp4
      show Go l ro0 mX6_top 39 (A, G, PF) 31 [.ref 27, .int x, .null, .null] [.long (lN (Nat.gcd h0 w0))] 39 _
      refine go_blk (pc2 := 33) (L2 := [.ref 27, .int x, .long (lN (Nat.gcd h0 w0)), .null]) (st2 := [.int x]) (M2 := (A, G, PF)) (hs2 := []) (C := True) [(.lstore_n 2, 0, 0), (.iload_n 1, 0, 0)] [] (by decide +kernel) rfl trivial ?_
      refine go_ifz (cnd := .ne) (off := 10) 43 (by decide +kernel) (by decide) (fun (c5 : ¬ x = 0) => ?_) (fun (c5 : x = 0) => ?_)
      · skip
        refine go_blk (pc2 := 49) (L2 := [.ref 27, .int x, .long (lN (Nat.gcd h0 w0)), .null]) (st2 := [.long ((G 27 22) / (lN (Nat.gcd h0 w0)))]) (M2 := (A, G, PF)) (hs2 := []) (C := (¬ (lN (Nat.gcd h0 w0)) = 0) ∧ True) [(.aload_n 0, 0, 0), (.getfield 149, 6, 22), (.lload_n 2, 0, 0), (.ldiv, 0, 0)] [] (by decide +kernel) rfl ⟨lN_ne (by omega) hg0, trivial⟩ ?_
        exact go_retl (by decide +kernel) rfl (Or.inr ⟨by assumption, by assumption, h0, w0, hf, hh0, hw1, hw, hwp, rfl, by unfold topM; first | rw [if_pos (by assumption)] | rw [if_neg (by assumption)]⟩)
      · skip
        refine go_blk (pc2 := 40) (L2 := [.ref 27, .int x, .long (lN (Nat.gcd h0 w0)), .null]) (st2 := [.long (G 27 21)]) (M2 := (A, G, PF)) (hs2 := []) (C := True) [(.aload_n 0, 0, 0), (.getfield 146, 6, 21)] [] (by decide +kernel) rfl trivial ?_
        refine go_goto (off := 7) 47 (by decide +kernel) (by decide) ?_
        refine go_blk (pc2 := 49) (L2 := [.ref 27, .int x, .long (lN (Nat.gcd h0 w0)), .null]) (st2 := [.long ((G 27 21) / (lN (Nat.gcd h0 w0)))]) (M2 := (A, G, PF)) (hs2 := []) (C := (¬ (lN (Nat.gcd h0 w0)) = 0) ∧ True) [(.lload_n 2, 0, 0), (.ldiv, 0, 0)] [] (by decide +kernel) rfl ⟨lN_ne (by omega) hg0, trivial⟩ ?_
        exact go_retl (by decide +kernel) rfl (Or.inr ⟨by assumption, by assumption, h0, w0, hf, hh0, hw1, hw, hwp, rfl, by unfold topM; first | rw [if_pos (by assumption)] | rw [if_neg (by assumption)]⟩)
    · rw [bi_f hb3]
      show Go l ro0 mX6_top 39 (A, G, PF) 15 [.ref 27, .int x, .null, .null] [.int 0] 39 _
      refine go_ifz (cnd := .ne) (off := 5) 20 (by decide +kernel) (by decide) (fun (h : ¬ (0 : Int32) = 0) => absurd h (by decide)) (fun _ => ?_)
      refine go_blk (pc2 := 19) (L2 := [.ref 27, .int x, .null, .null]) (st2 := [.long 0]) (M2 := (A, G, PF)) (hs2 := []) (C := True) [(.lconst 0, 0, 0)] [] (by decide +kernel) rfl trivial ?_
      exact go_retl (by decide +kernel) rfl (Or.inl ⟨by first | exact Or.inl (by assumption) | exact Or.inr (by assumption), rfl, rfl⟩)
