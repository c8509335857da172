theorem lg_eq {x y : Int64} : lg_cmp x y = 0 ↔ x = y := by
  unfold lg_cmp
  by_cases h1 : y < x
  · simp only [h1, if_true]
    constructor
    · intro h; cases h
    · intro h; subst h; exact absurd h1 (Int64.lt_irrefl)
  · by_cases h2 : x = y
    · simp [h1, h2]
    · simp [h1, h2]
theorem lg_gt {x y : Int64} : 0 < lg_cmp x y ↔ y < x := by
  unfold lg_cmp
  by_cases h1 : y < x
  · simp [h1]
  · by_cases h2 : x = y
    · simp [h1, h2]
    · simp [h1, h2]
theorem lg_le {x y : Int64} : lg_cmp x y ≤ 0 ↔ x ≤ y := by
  rw [← Int32.not_lt, ← Int64.not_lt]
  exact not_congr lg_gt
theorem lg_le2 {x y : Int64} : lg_cmp x y ≤ 0 ↔ ¬ y < x := lg_le.trans Int64.not_lt.symm
theorem u2_ne {α : Type} {f : Nat → Nat → α} {o k o' k' : Nat} {v : α} (h : ¬ (o' = o ∧ k' = k)) : u2 f o k v o' k' = f o' k' := if_neg h
def vS (A : Nat → Nat → Int32) (a b c : Int32) (n : Nat) : Int64 := (((a.toInt64 * (A 17 n).toInt64) + (b.toInt64 * (A 18 n).toInt64)) + (c.toInt64 * (A 19 n).toInt64))
def dS (A : Nat → Nat → Int32) (n : Nat) : Int64 := (A 20 n).toInt64
abbrev Tr : Type := Int64 × Int64 × Int32
def ord (o1 u1 o2 u2 : Int64) : Int64 := if u2 = 0 then 1 else o1 * u2 - o2 * u1
def ccn (t : Tr) (sm dv : Int64) (sd : Int32) : Tr := if 0 < ord sm dv t.1 t.2.1 then (sm, dv, sd) else if ord sm dv t.1 t.2.1 = 0 then (t.1, t.2.1, t.2.2 ||| sd) else t
noncomputable def ccf (A : Nat → Nat → Int32) (a b c nd : Int32) : Nat → Tr
  | 0 => (0, 0, 0)
  | k + 1 => @ite Tr (fit A nd k) (Classical.propDecidable _) (ccn (ccf A a b c nd k) (vS A a b c k) (dS A k) (A 21 k)) (ccf A a b c nd k)
theorem ccf_t {A : Nat → Nat → Int32} {a b c nd : Int32} {k : Nat} (h : fit A nd k) : ccf A a b c nd (k + 1) = ccn (ccf A a b c nd k) (vS A a b c k) (dS A k) (A 21 k) := if_pos h
theorem ccf_f {A : Nat → Nat → Int32} {a b c nd : Int32} {k : Nat} (h : ¬ fit A nd k) : ccf A a b c nd (k + 1) = ccf A a b c nd k := if_neg h
def incf (t cc : Tr) (sg : Int32) : Tr := if cc.2.1 = 0 then t else if 0 < ord cc.1 cc.2.1 t.1 t.2.1 then (cc.1, cc.2.1, if (cc.2.2 &&& sg) = sg then 1 else 0) else if ord cc.1 cc.2.1 t.1 t.2.1 = 0 then (t.1, t.2.1, if (¬ t.2.2 = 0) ∨ (cc.2.2 &&& sg) = sg then 1 else 0) else t
def CcF (A : Nat → Nat → Int32) (G : Nat → Nat → Int64) (A2 : Nat → Nat → Int32) (G2 : Nat → Nat → Int64) (t : Tr) : Prop := (∀ o k, ¬ (o = 26 ∧ k = 8) → A2 o k = A o k) ∧ (∀ o k, ¬ (o = 26 ∧ (k = 6 ∨ k = 7)) → G2 o k = G o k) ∧ G2 26 6 = t.1 ∧ G2 26 7 = t.2.1 ∧ A2 26 8 = t.2.2
theorem CcF.trans {A A2 A3 : Nat → Nat → Int32} {G G2 G3 : Nat → Nat → Int64} {t t2 : Tr} (h : CcF A G A2 G2 t) (h2 : CcF A2 G2 A3 G3 t2) : CcF A G A3 G3 t2 :=
  ⟨fun o k q => (h2.1 o k q).trans (h.1 o k q), fun o k q => (h2.2.1 o k q).trans (h.2.1 o k q), h2.2.2⟩
def PkF (A : Nat → Nat → Int32) (G : Nat → Nat → Int64) (A2 : Nat → Nat → Int32) (G2 : Nat → Nat → Int64) (t : Tr) : Prop := (∀ o k, ¬ (o = 26 ∧ (k = 5 ∨ k = 8)) → A2 o k = A o k) ∧ (∀ o k, o ≠ 26 → G2 o k = G o k) ∧ G2 26 3 = t.1 ∧ G2 26 4 = t.2.1 ∧ A2 26 5 = t.2.2
theorem PkF.trans {A A2 A3 : Nat → Nat → Int32} {G G2 G3 : Nat → Nat → Int64} {t t2 : Tr} (h : PkF A G A2 G2 t) (h2 : PkF A2 G2 A3 G3 t2) : PkF A G A3 G3 t2 :=
  ⟨fun o k q => (h2.1 o k q).trans (h.1 o k q), fun o k q => (h2.2.1 o k q).trans (h.2.1 o k q), h2.2.2⟩
set_option maxRecDepth 100000 in
set_option maxHeartbeats 4000000 in
theorem s_X4_start (l : Launch) (A : Nat → Nat → Int32) (G : Nat → Nat → Int64) (a b c : Int32) : Sem l mX4_start [.ref 26, .int a, .int b, .int c] 27 (A, G, PF) 27 (pm ((u2 (u2 (u2 (u2 A 26 0 a) 26 1 b) 26 2 c) 26 5 0), (u2 (u2 G 26 3 0) 26 4 0), PF)) := by
  refine sem_of_go (by decide) rfl (by decide) (by decide) rfl (Nat.le_of_ble_eq_true rfl) ?_
  show Go l ro0 mX4_start 27 (A, G, PF) 0 [.ref 26, .int a, .int b, .int c] [] 27 (pm ((u2 (u2 (u2 (u2 A 26 0 a) 26 1 b) 26 2 c) 26 5 0), (u2 (u2 G 26 3 0) 26 4 0), PF))
  refine go_blk (pc2 := 30) (L2 := [.ref 26, .int a, .int b, .int c]) (st2 := []) (M2 := ((u2 (u2 (u2 (u2 A 26 0 a) 26 1 b) 26 2 c) 26 5 0), (u2 (u2 G 26 3 0) 26 4 0), PF)) (hs2 := []) (C := (0 = 0 ∨ 0 = 1) ∧ True) [(.aload_n 0, 0, 0), (.iload_n 1, 0, 0), (.putfield 7, 4, 0), (.aload_n 0, 0, 0), (.iload_n 2, 0, 0), (.putfield 13, 4, 1), (.aload_n 0, 0, 0), (.iload_n 3, 0, 0), (.putfield 16, 4, 2), (.aload_n 0, 0, 0), (.lconst 0, 0, 0), (.putfield 19, 4, 3), (.aload_n 0, 0, 0), (.lconst 0, 0, 0), (.putfield 23, 4, 4), (.aload_n 0, 0, 0), (.iconst 0, 0, 0), (.putfield 26, 4, 5)] [] (by decide +kernel) rfl ⟨Or.inl rfl, trivial⟩ ?_
  exact go_retv (by decide +kernel) rfl (⟨rfl, rfl⟩)
set_option maxRecDepth 100000 in
set_option maxHeartbeats 4000000 in
theorem s_X4_isFound (l : Launch) (A : Nat → Nat → Int32) (G : Nat → Nat → Int64) : Sem l mX4_isFound [.ref 26] 27 (A, G, PF) 27 (pv (bi (0 < G 26 4)) (A, G, PF)) := by
  refine sem_of_go (by decide) rfl (by decide) (by decide) rfl (Nat.le_of_ble_eq_true rfl) ?_
  show Go l ro0 mX4_isFound 27 (A, G, PF) 0 [.ref 26] [] 27 (pv (bi (0 < G 26 4)) (A, G, PF))
  refine go_blk (pc2 := 6) (L2 := [.ref 26]) (st2 := [.int (lg_cmp (G 26 4) 0)]) (M2 := (A, G, PF)) (hs2 := []) (C := True) [(.aload_n 0, 0, 0), (.getfield 23, 4, 4), (.lconst 0, 0, 0), (.lcmp, 0, 0)] [] (by decide +kernel) rfl trivial ?_
  refine go_ifz (cnd := .le) (off := 7) 13 (by decide +kernel) (by decide) (fun (c1 : (lg_cmp (G 26 4) 0) ≤ 0) => ?_) (fun (c1 : ¬ (lg_cmp (G 26 4) 0) ≤ 0) => ?_)
  · skip
    replace c1 : ¬ (0 : Int64) < (G 26 4) := lg_le2.mp c1
    refine go_blk (pc2 := 14) (L2 := [.ref 26]) (st2 := [.int 0]) (M2 := (A, G, PF)) (hs2 := []) (C := True) [(.iconst 0, 0, 0)] [] (by decide +kernel) rfl trivial ?_
    exact go_retz (by decide +kernel) rfl (Or.inl rfl) (pv0 (by assumption))
  · skip
    replace c1 : (0 : Int64) < (G 26 4) := Classical.byContradiction (fun zz => c1 (lg_le2.mpr zz))
    refine go_blk (pc2 := 10) (L2 := [.ref 26]) (st2 := [.int 1]) (M2 := (A, G, PF)) (hs2 := []) (C := True) [(.iconst 1, 0, 0)] [] (by decide +kernel) rfl trivial ?_
    refine go_goto (off := 4) 14 (by decide +kernel) (by decide) ?_
    exact go_retz (by decide +kernel) rfl (Or.inr rfl) (pv1 (by assumption))
set_option maxRecDepth 100000 in
set_option maxHeartbeats 4000000 in
theorem s_X4_isReached (l : Launch) (A : Nat → Nat → Int32) (G : Nat → Nat → Int64) (h01 : A 26 5 = 0 ∨ A 26 5 = 1) : Sem l mX4_isReached [.ref 26] 27 (A, G, PF) 27 (pv (A 26 5) (A, G, PF)) := by
  refine sem_of_go (by decide) rfl (by decide) (by decide) rfl (Nat.le_of_ble_eq_true rfl) ?_
  show Go l ro0 mX4_isReached 27 (A, G, PF) 0 [.ref 26] [] 27 (pv (A 26 5) (A, G, PF))
  refine go_blk (pc2 := 4) (L2 := [.ref 26]) (st2 := [.int (A 26 5)]) (M2 := (A, G, PF)) (hs2 := []) (C := True) [(.aload_n 0, 0, 0), (.getfield 26, 4, 5)] [] (by decide +kernel) rfl trivial ?_
  exact go_retz (by decide +kernel) rfl (h01) (⟨rfl, rfl⟩)
set_option maxRecDepth 100000 in
set_option maxHeartbeats 4000000 in
theorem s_X4_isAtMost (l : Launch) (A : Nat → Nat → Int32) (G : Nat → Nat → Int64) (d : Int32) : Sem l mX4_isAtMost [.ref 26, .int d] 27 (A, G, PF) 27 (pv (bi (G 26 3 ≤ d.toInt64 * G 26 4)) (A, G, PF)) := by
  refine sem_of_go (by decide) rfl (by decide) (by decide) rfl (Nat.le_of_ble_eq_true rfl) ?_
  show Go l ro0 mX4_isAtMost 27 (A, G, PF) 0 [.ref 26, .int d] [] 27 (pv (bi (G 26 3 ≤ d.toInt64 * G 26 4)) (A, G, PF))
  refine go_blk (pc2 := 12) (L2 := [.ref 26, .int d]) (st2 := [.int (lg_cmp (G 26 3) (d.toInt64 * (G 26 4)))]) (M2 := (A, G, PF)) (hs2 := []) (C := True) [(.aload_n 0, 0, 0), (.getfield 19, 4, 3), (.iload_n 1, 0, 0), (.i2l, 0, 0), (.aload_n 0, 0, 0), (.getfield 23, 4, 4), (.lmul, 0, 0), (.lcmp, 0, 0)] [] (by decide +kernel) rfl trivial ?_
  refine go_ifz (cnd := .gt) (off := 7) 19 (by decide +kernel) (by decide) (fun (c1 : 0 < (lg_cmp (G 26 3) (d.toInt64 * (G 26 4)))) => ?_) (fun (c1 : ¬ 0 < (lg_cmp (G 26 3) (d.toInt64 * (G 26 4)))) => ?_)
  · skip
    replace c1 : (((d.toInt64 * (G 26 4)) : Int64) < (G 26 3)) := lg_gt.mp c1
    refine go_blk (pc2 := 20) (L2 := [.ref 26, .int d]) (st2 := [.int 0]) (M2 := (A, G, PF)) (hs2 := []) (C := True) [(.iconst 0, 0, 0)] [] (by decide +kernel) rfl trivial ?_
    exact go_retz (by decide +kernel) rfl (Or.inl rfl) (pv0 (Int64.not_le.mpr (by assumption)))
  · skip
    replace c1 : ¬ (((d.toInt64 * (G 26 4)) : Int64) < (G 26 3)) := fun zz => c1 (lg_gt.mpr zz)
    refine go_blk (pc2 := 16) (L2 := [.ref 26, .int d]) (st2 := [.int 1]) (M2 := (A, G, PF)) (hs2 := []) (C := True) [(.iconst 1, 0, 0)] [] (by decide +kernel) rfl trivial ?_
    refine go_goto (off := 4) 20 (by decide +kernel) (by decide) ?_
    exact go_retz (by decide +kernel) rfl (Or.inr rfl) (pv1 (Int64.not_lt.mp (by assumption)))
set_option maxRecDepth 100000 in
set_option maxHeartbeats 4000000 in
theorem s_X4_compare (l : Launch) (A : Nat → Nat → Int32) (G : Nat → Nat → Int64) (a b c d : Int64) : Sem l mX4_compare [.long a, .long b, .long c, .long d] 27 (A, G, PF) 27 (pl (a * d - c * b) (A, G, PF)) := by
  refine sem_of_go (by decide) rfl (by decide) (by decide) rfl (Nat.le_of_ble_eq_true rfl) ?_
  show Go l ro0 mX4_compare 27 (A, G, PF) 0 [.long a, .null, .long b, .null, .long c, .null, .long d, .null] [] 27 (pl (a * d - c * b) (A, G, PF))
  refine go_blk (pc2 := 9) (L2 := [.long a, .null, .long b, .null, .long c, .null, .long d, .null]) (st2 := [.long ((a * d) - (c * b))]) (M2 := (A, G, PF)) (hs2 := []) (C := True) [(.lload_n 0, 0, 0), (.lload 6, 0, 0), (.lmul, 0, 0), (.lload 4, 0, 0), (.lload_n 2, 0, 0), (.lmul, 0, 0), (.lsub, 0, 0)] [] (by decide +kernel) rfl trivial ?_
  exact go_retl (by decide +kernel) rfl (⟨rfl, rfl⟩)
set_option maxRecDepth 100000 in
set_option maxHeartbeats 4000000 in
theorem s_X4_climbCorner (l : Launch) (A : Nat → Nat → Int32) (G : Nat → Nat → Int64) (sm dv : Int64) (sd : Int32) : Sem l mX4_climbCorner [.ref 26, .long sm, .long dv, .int sd] 27 (A, G, PF) 27 (fun r M2 => r = none ∧ ∃ A2 G2, M2 = (A2, G2, PF) ∧ CcF A G A2 G2 (ccn (G 26 6, G 26 7, A 26 8) sm dv sd)) := by
  refine sem_of_go (by decide) rfl (by decide) (by decide) rfl (Nat.le_of_ble_eq_true rfl) ?_
  show Go l ro0 mX4_climbCorner 27 (A, G, PF) 0 [.ref 26, .long sm, .null, .long dv, .null, .int sd, .null, .null] [] 27 (fun r M2 => r = none ∧ ∃ A2 G2, M2 = (A2, G2, PF) ∧ CcF A G A2 G2 (ccn (G 26 6, G 26 7, A 26 8) sm dv sd))
  refine go_blk (pc2 := 6) (L2 := [.ref 26, .long sm, .null, .long dv, .null, .int sd, .null, .null]) (st2 := [.int (lg_cmp (G 26 7) 0)]) (M2 := (A, G, PF)) (hs2 := []) (C := True) [(.aload_n 0, 0, 0), (.getfield 33, 4, 7), (.lconst 0, 0, 0), (.lcmp, 0, 0)] [] (by decide +kernel) rfl trivial ?_
  refine go_ifz (cnd := .ne) (off := 7) 13 (by decide +kernel) (by decide) (fun (c1 : ¬ (lg_cmp (G 26 7) 0) = 0) => ?_) (fun (c1 : (lg_cmp (G 26 7) 0) = 0) => ?_)
  · skip
    replace c1 : ¬ ((G 26 7 : Int64) = 0) := fun zz => c1 (lg_eq.mpr zz)
    refine go_blk (pc2 := 23) (L2 := [.ref 26, .long sm, .null, .long dv, .null, .int sd, .null, .null]) (st2 := [.long (G 26 7), .long (G 26 6), .long dv, .long sm]) (M2 := (A, G, PF)) (hs2 := []) (C := True) [(.lload_n 1, 0, 0), (.lload_n 3, 0, 0), (.aload_n 0, 0, 0), (.getfield 30, 4, 6), (.aload_n 0, 0, 0), (.getfield 33, 4, 7)] [] (by decide +kernel) rfl trivial ?_
    refine go_call (Y2 := mX4_compare) (n2 := 27) (st := []) [] [.long sm, .long dv, .long (G 26 6), .long (G 26 7)] ck_4_43 cwX4_compare rfl (by decide +kernel) rfl (fun _ => rfl) (fun h => absurd rfl h) (Nat.le_of_ble_eq_true rfl) (Or.inl rfl) (fun _ _ _ h => h) (s_X4_compare l A G sm dv (G 26 6) (G 26 7)) (fun v M2 hp2 => ?_)
    obtain ⟨rfl, rfl⟩ := hp2
    show Go l ro0 mX4_climbCorner 27 (A, G, PF) 26 [.ref 26, .long sm, .null, .long dv, .null, .int sd, .null, .null] [.long (sm * (G 26 7) - (G 26 6) * dv)] 27 _
    refine go_blk (pc2 := 32) (L2 := [.ref 26, .long sm, .null, .long dv, .null, .int sd, .long (sm * (G 26 7) - (G 26 6) * dv), .null]) (st2 := [.int (lg_cmp (sm * (G 26 7) - (G 26 6) * dv) 0)]) (M2 := (A, G, PF)) (hs2 := []) (C := True) [(.lstore 6, 0, 0), (.lload 6, 0, 0), (.lconst 0, 0, 0), (.lcmp, 0, 0)] [] (by decide +kernel) rfl trivial ?_
    refine go_ifz (cnd := .le) (off := 22) 54 (by decide +kernel) (by decide) (fun (c3 : (lg_cmp (sm * (G 26 7) - (G 26 6) * dv) 0) ≤ 0) => ?_) (fun (c3 : ¬ (lg_cmp (sm * (G 26 7) - (G 26 6) * dv) 0) ≤ 0) => ?_)
    · skip
      replace c3 : ¬ (0 : Int64) < (sm * (G 26 7) - (G 26 6) * dv) := lg_le2.mp c3
      refine go_blk (pc2 := 58) (L2 := [.ref 26, .long sm, .null, .long dv, .null, .int sd, .long (sm * (G 26 7) - (G 26 6) * dv), .null]) (st2 := [.int (lg_cmp (sm * (G 26 7) - (G 26 6) * dv) 0)]) (M2 := (A, G, PF)) (hs2 := []) (C := True) [(.lload 6, 0, 0), (.lconst 0, 0, 0), (.lcmp, 0, 0)] [] (by decide +kernel) rfl trivial ?_
      refine go_ifz (cnd := .ne) (off := 14) 72 (by decide +kernel) (by decide) (fun (c4 : ¬ (lg_cmp (sm * (G 26 7) - (G 26 6) * dv) 0) = 0) => ?_) (fun (c4 : (lg_cmp (sm * (G 26 7) - (G 26 6) * dv) 0) = 0) => ?_)
      · skip
        replace c4 : ¬ (((sm * (G 26 7) - (G 26 6) * dv) : Int64) = 0) := fun zz => c4 (lg_eq.mpr zz)
        exact go_retv (by decide +kernel) rfl (⟨rfl, _, _, rfl, by
      have ho : ccn (G 26 6, G 26 7, A 26 8) sm dv sd = (G 26 6, G 26 7, A 26 8) := by
        unfold ccn ord
        simp [*]
      rw [ho]
      exact ⟨by (intro o k hh; (try rw [u2_ne (by omega)]); (try rw [u2_ne (by omega)]); (try rfl)), by (intro o k hh; (try rw [u2_ne (by omega)]); (try rw [u2_ne (by omega)]); (try rfl)), by simp [u2], by simp [u2], by simp [u2]⟩⟩)
      · skip
        replace c4 : (((sm * (G 26 7) - (G 26 6) * dv) : Int64) = 0) := lg_eq.mp c4
        refine go_blk (pc2 := 72) (L2 := [.ref 26, .long sm, .null, .long dv, .null, .int sd, .long (sm * (G 26 7) - (G 26 6) * dv), .null]) (st2 := []) (M2 := ((u2 A 26 8 ((A 26 8) ||| sd)), G, PF)) (hs2 := []) (C := True) [(.aload_n 0, 0, 0), (.dup, 0, 0), (.getfield 36, 4, 8), (.iload 5, 0, 0), (.ior, 0, 0), (.putfield 36, 4, 8)] [] (by decide +kernel) rfl trivial ?_
        exact go_retv (by decide +kernel) rfl (⟨rfl, _, _, rfl, by
      have ho : ccn (G 26 6, G 26 7, A 26 8) sm dv sd = (G 26 6, G 26 7, A 26 8 ||| sd) := by
        unfold ccn ord
        simp [*]
      rw [ho]
      exact ⟨by (intro o k hh; (try rw [u2_ne (by omega)]); (try rw [u2_ne (by omega)]); (try rfl)), by (intro o k hh; (try rw [u2_ne (by omega)]); (try rw [u2_ne (by omega)]); (try rfl)), by simp [u2], by simp [u2], by simp [u2]⟩⟩)
    · skip
      replace c3 : (0 : Int64) < (sm * (G 26 7) - (G 26 6) * dv) := Classical.byContradiction (fun zz => c3 (lg_le2.mpr zz))
      refine go_blk (pc2 := 51) (L2 := [.ref 26, .long sm, .null, .long dv, .null, .int sd, .long (sm * (G 26 7) - (G 26 6) * dv), .null]) (st2 := []) (M2 := ((u2 A 26 8 sd), (u2 (u2 G 26 6 sm) 26 7 dv), PF)) (hs2 := []) (C := True) [(.aload_n 0, 0, 0), (.lload_n 1, 0, 0), (.putfield 30, 4, 6), (.aload_n 0, 0, 0), (.lload_n 3, 0, 0), (.putfield 33, 4, 7), (.aload_n 0, 0, 0), (.iload 5, 0, 0), (.putfield 36, 4, 8)] [] (by decide +kernel) rfl trivial ?_
      refine go_goto (off := 21) 72 (by decide +kernel) (by decide) ?_
      exact go_retv (by decide +kernel) rfl (⟨rfl, _, _, rfl, by
      have ho : ccn (G 26 6, G 26 7, A 26 8) sm dv sd = (sm, dv, sd) := by
        unfold ccn ord
        simp [*]
      rw [ho]
      exact ⟨by (intro o k hh; (try rw [u2_ne (by omega)]); (try rw [u2_ne (by omega)]); (try rfl)), by (intro o k hh; (try rw [u2_ne (by omega)]); (try rw [u2_ne (by omega)]); (try rfl)), by simp [u2], by simp [u2], by simp [u2]⟩⟩)
  · skip
    replace c1 : ((G 26 7 : Int64) = 0) := lg_eq.mp c1
    refine go_blk (pc2 := 10) (L2 := [.ref 26, .long sm, .null, .long dv, .null, .int sd, .null, .null]) (st2 := [.long 1]) (M2 := (A, G, PF)) (hs2 := []) (C := True) [(.lconst 1, 0, 0)] [] (by decide +kernel) rfl trivial ?_
    refine go_goto (off := 16) 26 (by decide +kernel) (by decide) ?_
    refine go_blk (pc2 := 32) (L2 := [.ref 26, .long sm, .null, .long dv, .null, .int sd, .long 1, .null]) (st2 := [.int (lg_cmp 1 0)]) (M2 := (A, G, PF)) (hs2 := []) (C := True) [(.lstore 6, 0, 0), (.lload 6, 0, 0), (.lconst 0, 0, 0), (.lcmp, 0, 0)] [] (by decide +kernel) rfl trivial ?_
    refine go_ifz (cnd := .le) (off := 22) 54 (by decide +kernel) (by decide) (fun (h : (lg_cmp 1 0) ≤ 0) => absurd h (by decide)) (fun _ => ?_)
    refine go_blk (pc2 := 51) (L2 := [.ref 26, .long sm, .null, .long dv, .null, .int sd, .long 1, .null]) (st2 := []) (M2 := ((u2 A 26 8 sd), (u2 (u2 G 26 6 sm) 26 7 dv), PF)) (hs2 := []) (C := True) [(.aload_n 0, 0, 0), (.lload_n 1, 0, 0), (.putfield 30, 4, 6), (.aload_n 0, 0, 0), (.lload_n 3, 0, 0), (.putfield 33, 4, 7), (.aload_n 0, 0, 0), (.iload 5, 0, 0), (.putfield 36, 4, 8)] [] (by decide +kernel) rfl trivial ?_
    refine go_goto (off := 21) 72 (by decide +kernel) (by decide) ?_
    exact go_retv (by decide +kernel) rfl (⟨rfl, _, _, rfl, by
      have ho : ccn (G 26 6, G 26 7, A 26 8) sm dv sd = (sm, dv, sd) := by
        unfold ccn ord
        simp [*]
      rw [ho]
      exact ⟨by (intro o k hh; (try rw [u2_ne (by omega)]); (try rw [u2_ne (by omega)]); (try rfl)), by (intro o k hh; (try rw [u2_ne (by omega)]); (try rw [u2_ne (by omega)]); (try rfl)), by simp [u2], by simp [u2], by simp [u2]⟩⟩)
set_option maxRecDepth 100000 in
set_option maxHeartbeats 4000000 in
theorem lp_X4_climbCell (l : Launch) (A : Nat → Nat → Int32) (G : Nat → Nat → Int64) (cnt : Nat) (hc : A 12 9 = nI cnt) (hc364 : cnt ≤ 364) (nd : Int32) : ∀ k, k ≤ cnt → ∀ A2 G2, CcF A G A2 G2 (ccf A (A 26 0) (A 26 1) (A 26 2) nd k) → ∀ j : Value, Go l ro0 mX4_climbCell 27 (A2, G2, PF) 17 [.ref 26, .ref 12, .int nd, .int (nI k), j] [] 27 (fun r M2 => r = none ∧ ∃ A2 G2, M2 = (A2, G2, PF) ∧ CcF A G A2 G2 (ccf A (A 26 0) (A 26 1) (A 26 2) nd cnt)) := by
  refine down cnt (fun k hk ih A2 G2 hI j => ?_)
  have hcnt2 : A2 12 9 = nI cnt := by rw [hI.1 12 9 (by omega)]; exact hc
  have e17 : A2 17 k = A 17 k := hI.1 17 k (by omega)
  have e18 : A2 18 k = A 18 k := hI.1 18 k (by omega)
  have e19 : A2 19 k = A 19 k := hI.1 19 k (by omega)
  have e20 : A2 20 k = A 20 k := hI.1 20 k (by omega)
  have e21 : A2 21 k = A 21 k := hI.1 21 k (by omega)
  have e26a : A2 26 0 = A 26 0 := hI.1 26 0 (by omega)
  have e26b : A2 26 1 = A 26 1 := hI.1 26 1 (by omega)
  have e26c : A2 26 2 = A 26 2 := hI.1 26 2 (by omega)
  refine go_blk (pc2 := 19) (L2 := [.ref 26, .ref 12, .int nd, .int (nI k), j]) (st2 := [.ref 12, .int (nI k)]) (M2 := (A2, G2, PF)) (hs2 := []) (C := True) [(.iload_n 3, 0, 0), (.aload_n 1, 0, 0)] [] (by decide +kernel) rfl trivial ?_
  refine go_call (Y2 := mX3_count) (n2 := 27) (st := [.int (nI k)]) [.ref 12] [] ck_4_47 cwX3_count rfl (by decide +kernel) rfl (fun h => absurd h (by decide)) (fun _ => ⟨12, rfl, by decide, rfl⟩) (Nat.le_of_ble_eq_true rfl) (Or.inl rfl) (fun _ _ _ h => h) (s_X3_count l A2 G2) (fun v M2 hp1 => ?_)
  obtain ⟨rfl, rfl⟩ := hp1
  show Go l ro0 mX4_climbCell 27 (A2, G2, PF) 22 [.ref 26, .ref 12, .int nd, .int (nI k), j] [.int (A2 12 9), .int (nI k)] 27 _
  refine go_cmp (cnd := .ge) (off := 53) 75 (by decide +kernel) (by decide) (fun (c2 : (A2 12 9) ≤ (nI k)) => ?_) (fun (c2 : ¬ (A2 12 9) ≤ (nI k)) => ?_)
  · skip
    replace c2 : cnt ≤ k := (nx_le (a := cnt) (b := k) hcnt2 rfl (by omega) (by omega)).mp c2
    exact go_retv (by decide +kernel) rfl (⟨rfl, A2, G2, rfl, by rw [show cnt = k by omega]; exact hI⟩)
  · skip
    replace c2 : ¬ cnt ≤ k := fun zz => c2 ((nx_le (a := cnt) (b := k) hcnt2 rfl (by omega) (by omega)).mpr zz)
    refine go_blk (pc2 := 27) (L2 := [.ref 26, .ref 12, .int nd, .int (nI k), j]) (st2 := [.int (nI k), .ref 12]) (M2 := (A2, G2, PF)) (hs2 := []) (C := True) [(.aload_n 1, 0, 0), (.iload_n 3, 0, 0)] [] (by decide +kernel) rfl trivial ?_
    refine go_call (Y2 := mX3_sidesOf) (n2 := 27) (st := []) [.ref 12] [.int (nI k)] ck_4_53 cwX3_sidesOf rfl (by decide +kernel) rfl (fun h => absurd h (by decide)) (fun _ => ⟨12, rfl, by decide, rfl⟩) (Nat.le_of_ble_eq_true rfl) (Or.inl rfl) (fun _ _ _ h => h) (s_X3_sidesOf l A2 G2 k (by omega)) (fun v M2 hp3 => ?_)
    obtain ⟨rfl, rfl⟩ := hp3
    show Go l ro0 mX4_climbCell 27 (A2, G2, PF) 30 [.ref 26, .ref 12, .int nd, .int (nI k), j] [.int (A2 21 k)] 27 _
    refine go_blk (pc2 := 37) (L2 := [.ref 26, .ref 12, .int nd, .int (nI k), .int (A2 21 k)]) (st2 := [.int nd, .int ((A2 21 k) &&& nd)]) (M2 := (A2, G2, PF)) (hs2 := []) (C := True) [(.istore 4, 0, 0), (.iload 4, 0, 0), (.iload_n 2, 0, 0), (.iand, 0, 0), (.iload_n 2, 0, 0)] [] (by decide +kernel) rfl trivial ?_
    refine go_cmp (cnd := .ne) (off := 32) 69 (by decide +kernel) (by decide) (fun (c4 : ¬ ((A2 21 k) &&& nd) = nd) => ?_) (fun (c4 : ((A2 21 k) &&& nd) = nd) => ?_)
    · skip
      replace c4 : ¬ fit A nd k := by rw [e21] at c4; exact c4
      refine go_blk (pc2 := 72) (L2 := [.ref 26, .ref 12, .int nd, .int ((nI k) + 1), .int (A2 21 k)]) (st2 := []) (M2 := (A2, G2, PF)) (hs2 := []) (C := True) [(.iinc 3 1, 0, 0)] [] (by decide +kernel) rfl trivial ?_
      refine go_goto (off := -55) 17 (by decide +kernel) (by decide) ?_
      exact go_as (ih (by omega) A2 G2 (by rw [ccf_f (by assumption)]; exact hI) (.int (A2 21 k))) rfl (by simp only [nI_1]) rfl
    · skip
      replace c4 : fit A nd k := by rw [e21] at c4; exact c4
      refine go_blk (pc2 := 55) (L2 := [.ref 26, .ref 12, .int nd, .int (nI k), .int (A2 21 k)]) (st2 := [.int (A2 26 2), .int (A2 26 1), .int (A2 26 0), .int (nI k), .ref 12, .ref 26]) (M2 := (A2, G2, PF)) (hs2 := []) (C := True) [(.aload_n 0, 0, 0), (.aload_n 1, 0, 0), (.iload_n 3, 0, 0), (.aload_n 0, 0, 0), (.getfield 7, 4, 0), (.aload_n 0, 0, 0), (.getfield 13, 4, 1), (.aload_n 0, 0, 0), (.getfield 16, 4, 2)] [] (by decide +kernel) rfl trivial ?_
      refine go_call (Y2 := mX3_sumAt) (n2 := 27) (st := [.ref 26]) [.ref 12] [.int (nI k), .int (A2 26 0), .int (A2 26 1), .int (A2 26 2)] ck_4_57 cwX3_sumAt rfl (by decide +kernel) rfl (fun h => absurd h (by decide)) (fun _ => ⟨12, rfl, by decide, rfl⟩) (Nat.le_of_ble_eq_true rfl) (Or.inl rfl) (fun _ _ _ h => h) (s_X3_sumAt l A2 G2 k (by omega) (A2 26 0) (A2 26 1) (A2 26 2)) (fun v M2 hp5 => ?_)
      obtain ⟨rfl, rfl⟩ := hp5
      show Go l ro0 mX4_climbCell 27 (A2, G2, PF) 58 [.ref 26, .ref 12, .int nd, .int (nI k), .int (A2 21 k)] [.long ((((A2 26 0).toInt64 * (A2 17 k).toInt64) + ((A2 26 1).toInt64 * (A2 18 k).toInt64)) + ((A2 26 2).toInt64 * (A2 19 k).toInt64)), .ref 26] 27 _
      refine go_blk (pc2 := 60) (L2 := [.ref 26, .ref 12, .int nd, .int (nI k), .int (A2 21 k)]) (st2 := [.int (nI k), .ref 12, .long ((((A2 26 0).toInt64 * (A2 17 k).toInt64) + ((A2 26 1).toInt64 * (A2 18 k).toInt64)) + ((A2 26 2).toInt64 * (A2 19 k).toInt64)), .ref 26]) (M2 := (A2, G2, PF)) (hs2 := []) (C := True) [(.aload_n 1, 0, 0), (.iload_n 3, 0, 0)] [] (by decide +kernel) rfl trivial ?_
      refine go_call (Y2 := mX3_divisorOf) (n2 := 27) (st := [.long ((((A2 26 0).toInt64 * (A2 17 k).toInt64) + ((A2 26 1).toInt64 * (A2 18 k).toInt64)) + ((A2 26 2).toInt64 * (A2 19 k).toInt64)), .ref 26]) [.ref 12] [.int (nI k)] ck_4_61 cwX3_divisorOf rfl (by decide +kernel) rfl (fun h => absurd h (by decide)) (fun _ => ⟨12, rfl, by decide, rfl⟩) (Nat.le_of_ble_eq_true rfl) (Or.inl rfl) (fun _ _ _ h => h) (s_X3_divisorOf l A2 G2 k (by omega)) (fun v M2 hp6 => ?_)
      obtain ⟨rfl, rfl⟩ := hp6
      show Go l ro0 mX4_climbCell 27 (A2, G2, PF) 63 [.ref 26, .ref 12, .int nd, .int (nI k), .int (A2 21 k)] [.int (A2 20 k), .long ((((A2 26 0).toInt64 * (A2 17 k).toInt64) + ((A2 26 1).toInt64 * (A2 18 k).toInt64)) + ((A2 26 2).toInt64 * (A2 19 k).toInt64)), .ref 26] 27 _
      refine go_blk (pc2 := 66) (L2 := [.ref 26, .ref 12, .int nd, .int (nI k), .int (A2 21 k)]) (st2 := [.int (A2 21 k), .long ((A2 20 k).toInt64), .long ((((A2 26 0).toInt64 * (A2 17 k).toInt64) + ((A2 26 1).toInt64 * (A2 18 k).toInt64)) + ((A2 26 2).toInt64 * (A2 19 k).toInt64)), .ref 26]) (M2 := (A2, G2, PF)) (hs2 := []) (C := True) [(.i2l, 0, 0), (.iload 4, 0, 0)] [] (by decide +kernel) rfl trivial ?_
      refine go_call (Y2 := mX4_climbCorner) (n2 := 27) (st := []) [.ref 26] [.long ((((A2 26 0).toInt64 * (A2 17 k).toInt64) + ((A2 26 1).toInt64 * (A2 18 k).toInt64)) + ((A2 26 2).toInt64 * (A2 19 k).toInt64)), .long ((A2 20 k).toInt64), .int (A2 21 k)] ck_4_64 cwX4_climbCorner rfl (by decide +kernel) rfl (fun h => absurd h (by decide)) (fun _ => ⟨26, rfl, by decide, rfl⟩) (Nat.le_of_ble_eq_true rfl) (Or.inl rfl) (fun _ _ _ h => h) (s_X4_climbCorner l A2 G2 ((((A2 26 0).toInt64 * (A2 17 k).toInt64) + ((A2 26 1).toInt64 * (A2 18 k).toInt64)) + ((A2 26 2).toInt64 * (A2 19 k).toInt64)) ((A2 20 k).toInt64) (A2 21 k)) (fun v M2 hp7 => ?_)
      obtain ⟨rfl, A3, G3, rfl, hF⟩ := hp7
      show Go l ro0 mX4_climbCell 27 (A3, G3, PF) 69 [.ref 26, .ref 12, .int nd, .int (nI k), .int (A2 21 k)] [] 27 _
      refine go_blk (pc2 := 72) (L2 := [.ref 26, .ref 12, .int nd, .int ((nI k) + 1), .int (A2 21 k)]) (st2 := []) (M2 := (A3, G3, PF)) (hs2 := []) (C := True) [(.iinc 3 1, 0, 0)] [] (by decide +kernel) rfl trivial ?_
      refine go_goto (off := -55) 17 (by decide +kernel) (by decide) ?_
      exact go_as (ih (by omega) A3 G3 (by rw [ccf_t (by assumption)]; have := hI.trans hF; rw [hI.2.2.1, hI.2.2.2.1, hI.2.2.2.2, e17, e18, e19, e20, e21, e26a, e26b, e26c] at this; exact this) (.int (A2 21 k))) rfl (by simp only [nI_1]) rfl
set_option maxRecDepth 100000 in
set_option maxHeartbeats 4000000 in
theorem s_X4_climbCell (l : Launch) (A : Nat → Nat → Int32) (G : Nat → Nat → Int64) (cnt : Nat) (hc : A 12 9 = nI cnt) (hc364 : cnt ≤ 364) (nd : Int32) : Sem l mX4_climbCell [.ref 26, .ref 12, .int nd] 27 (A, G, PF) 27 (fun r M2 => r = none ∧ ∃ A2 G2, M2 = (A2, G2, PF) ∧ CcF A G A2 G2 (ccf A (A 26 0) (A 26 1) (A 26 2) nd cnt)) := by
  refine sem_of_go (by decide) rfl (by decide) (by decide) rfl (Nat.le_of_ble_eq_true rfl) ?_
  show Go l ro0 mX4_climbCell 27 (A, G, PF) 0 [.ref 26, .ref 12, .int nd, .null, .null] [] 27 (fun r M2 => r = none ∧ ∃ A2 G2, M2 = (A2, G2, PF) ∧ CcF A G A2 G2 (ccf A (A 26 0) (A 26 1) (A 26 2) nd cnt))
  refine go_blk (pc2 := 17) (L2 := [.ref 26, .ref 12, .int nd, .int 0, .null]) (st2 := []) (M2 := ((u2 A 26 8 0), (u2 (u2 G 26 6 0) 26 7 0), PF)) (hs2 := []) (C := True) [(.aload_n 0, 0, 0), (.lconst 0, 0, 0), (.putfield 30, 4, 6), (.aload_n 0, 0, 0), (.lconst 0, 0, 0), (.putfield 33, 4, 7), (.aload_n 0, 0, 0), (.iconst 0, 0, 0), (.putfield 36, 4, 8), (.iconst 0, 0, 0), (.istore_n 3, 0, 0)] [] (by decide +kernel) rfl trivial ?_
  exact lp_X4_climbCell l A G cnt hc hc364 nd 0 (by omega) _ _ ⟨by (intro o k hh; (try rw [u2_ne (by omega)]); (try rw [u2_ne (by omega)]); (try rfl)), by (intro o k hh; (try rw [u2_ne (by omega)]); (try rw [u2_ne (by omega)]); (try rfl)), by simp [u2, ccf], by simp [u2, ccf], by simp [u2, ccf]⟩ _
set_option maxRecDepth 100000 in
set_option maxHeartbeats 4000000 in
theorem s_X4_include (l : Launch) (A : Nat → Nat → Int32) (G : Nat → Nat → Int64) (cnt : Nat) (hc : A 12 9 = nI cnt) (hc364 : cnt ≤ 364) (nd sg : Int32) : Sem l mX4_include [.ref 26, .ref 12, .int nd, .int sg] 27 (A, G, PF) 27 (fun r M2 => r = none ∧ ∃ A2 G2, M2 = (A2, G2, PF) ∧ PkF A G A2 G2 (incf (G 26 3, G 26 4, A 26 5) (ccf A (A 26 0) (A 26 1) (A 26 2) nd cnt) sg)) := by
  refine sem_of_go (by decide) rfl (by decide) (by decide) rfl (Nat.le_of_ble_eq_true rfl) ?_
  show Go l ro0 mX4_include 27 (A, G, PF) 0 [.ref 26, .ref 12, .int nd, .int sg, .null, .null, .null] [] 27 (fun r M2 => r = none ∧ ∃ A2 G2, M2 = (A2, G2, PF) ∧ PkF A G A2 G2 (incf (G 26 3, G 26 4, A 26 5) (ccf A (A 26 0) (A 26 1) (A 26 2) nd cnt) sg))
  refine go_blk (pc2 := 3) (L2 := [.ref 26, .ref 12, .int nd, .int sg, .null, .null, .null]) (st2 := [.int nd, .ref 12, .ref 26]) (M2 := (A, G, PF)) (hs2 := []) (C := True) [(.aload_n 0, 0, 0), (.aload_n 1, 0, 0), (.iload_n 2, 0, 0)] [] (by decide +kernel) rfl trivial ?_
  refine go_call (Y2 := mX4_climbCell) (n2 := 27) (st := []) [.ref 26] [.ref 12, .int nd] ck_4_39 cwX4_climbCell rfl (by decide +kernel) rfl (fun h => absurd h (by decide)) (fun _ => ⟨26, rfl, by decide, rfl⟩) (Nat.le_of_ble_eq_true rfl) (Or.inl rfl) (fun _ _ _ h => h) (s_X4_climbCell l A G cnt hc hc364 nd) (fun v M2 hp1 => ?_)
  obtain ⟨rfl, A2, G2, rfl, hI⟩ := hp1
  obtain ⟨cc, ecc⟩ : ∃ z, z = ccf A (A 26 0) (A 26 1) (A 26 2) nd cnt := ⟨_, rfl⟩
  rw [← ecc] at hI
  rw [← ecc]
  clear ecc
  have g3 : G2 26 3 = G 26 3 := hI.2.1 26 3 (by omega)
  have g4 : G2 26 4 = G 26 4 := hI.2.1 26 4 (by omega)
  have g5 : A2 26 5 = A 26 5 := hI.1 26 5 (by omega)
  have g6 : G2 26 6 = cc.1 := hI.2.2.1
  have g7 : G2 26 7 = cc.2.1 := hI.2.2.2.1
  have g8 : A2 26 8 = cc.2.2 := hI.2.2.2.2
  show Go l ro0 mX4_include 27 (A2, G2, PF) 6 [.ref 26, .ref 12, .int nd, .int sg, .null, .null, .null] [] 27 _
  refine go_blk (pc2 := 12) (L2 := [.ref 26, .ref 12, .int nd, .int sg, .null, .null, .null]) (st2 := [.int (lg_cmp (G2 26 7) 0)]) (M2 := (A2, G2, PF)) (hs2 := []) (C := True) [(.aload_n 0, 0, 0), (.getfield 33, 4, 7), (.lconst 0, 0, 0), (.lcmp, 0, 0)] [] (by decide +kernel) rfl trivial ?_
  refine go_ifz (cnd := .ne) (off := 4) 16 (by decide +kernel) (by decide) (fun (c2 : ¬ (lg_cmp (G2 26 7) 0) = 0) => ?_) (fun (c2 : (lg_cmp (G2 26 7) 0) = 0) => ?_)
  · skip
    replace c2 : ¬ ((G2 26 7 : Int64) = 0) := fun zz => c2 (lg_eq.mpr zz)
    simp only [g3, g4, g5, g6, g7, g8] at c2
    refine go_blk (pc2 := 23) (L2 := [.ref 26, .ref 12, .int nd, .int sg, .null, .null, .null]) (st2 := [.int sg, .int ((A2 26 8) &&& sg)]) (M2 := (A2, G2, PF)) (hs2 := []) (C := True) [(.aload_n 0, 0, 0), (.getfield 36, 4, 8), (.iload_n 3, 0, 0), (.iand, 0, 0), (.iload_n 3, 0, 0)] [] (by decide +kernel) rfl trivial ?_
    refine go_cmp (cnd := .ne) (off := 7) 30 (by decide +kernel) (by decide) (fun (c3 : ¬ ((A2 26 8) &&& sg) = sg) => ?_) (fun (c3 : ((A2 26 8) &&& sg) = sg) => ?_)
    · skip
      simp only [g3, g4, g5, g6, g7, g8] at c3
      refine go_blk (pc2 := 39) (L2 := [.ref 26, .ref 12, .int nd, .int sg, .int 0, .null, .null]) (st2 := [.int (lg_cmp (G2 26 4) 0)]) (M2 := (A2, G2, PF)) (hs2 := []) (C := True) [(.iconst 0, 0, 0), (.istore 4, 0, 0), (.aload_n 0, 0, 0), (.getfield 23, 4, 4), (.lconst 0, 0, 0), (.lcmp, 0, 0)] [] (by decide +kernel) rfl trivial ?_
      refine go_ifz (cnd := .ne) (off := 7) 46 (by decide +kernel) (by decide) (fun (c4 : ¬ (lg_cmp (G2 26 4) 0) = 0) => ?_) (fun (c4 : (lg_cmp (G2 26 4) 0) = 0) => ?_)
      · skip
        replace c4 : ¬ ((G2 26 4 : Int64) = 0) := fun zz => c4 (lg_eq.mpr zz)
        simp only [g3, g4, g5, g6, g7, g8] at c4
        refine go_blk (pc2 := 62) (L2 := [.ref 26, .ref 12, .int nd, .int sg, .int 0, .null, .null]) (st2 := [.long (G2 26 4), .long (G2 26 3), .long (G2 26 7), .long (G2 26 6)]) (M2 := (A2, G2, PF)) (hs2 := []) (C := True) [(.aload_n 0, 0, 0), (.getfield 30, 4, 6), (.aload_n 0, 0, 0), (.getfield 33, 4, 7), (.aload_n 0, 0, 0), (.getfield 19, 4, 3), (.aload_n 0, 0, 0), (.getfield 23, 4, 4)] [] (by decide +kernel) rfl trivial ?_
        refine go_call (Y2 := mX4_compare) (n2 := 27) (st := []) [] [.long (G2 26 6), .long (G2 26 7), .long (G2 26 3), .long (G2 26 4)] ck_4_43 cwX4_compare rfl (by decide +kernel) rfl (fun _ => rfl) (fun h => absurd rfl h) (Nat.le_of_ble_eq_true rfl) (Or.inl rfl) (fun _ _ _ h => h) (s_X4_compare l A2 G2 (G2 26 6) (G2 26 7) (G2 26 3) (G2 26 4)) (fun v M2 hp5 => ?_)
        obtain ⟨rfl, rfl⟩ := hp5
        show Go l ro0 mX4_include 27 (A2, G2, PF) 65 [.ref 26, .ref 12, .int nd, .int sg, .int 0, .null, .null] [.long ((G2 26 6) * (G2 26 4) - (G2 26 3) * (G2 26 7))] 27 _
        refine go_blk (pc2 := 71) (L2 := [.ref 26, .ref 12, .int nd, .int sg, .int 0, .long ((G2 26 6) * (G2 26 4) - (G2 26 3) * (G2 26 7)), .null]) (st2 := [.int (lg_cmp ((G2 26 6) * (G2 26 4) - (G2 26 3) * (G2 26 7)) 0)]) (M2 := (A2, G2, PF)) (hs2 := []) (C := True) [(.lstore 5, 0, 0), (.lload 5, 0, 0), (.lconst 0, 0, 0), (.lcmp, 0, 0)] [] (by decide +kernel) rfl trivial ?_
        refine go_ifz (cnd := .le) (off := 28) 99 (by decide +kernel) (by decide) (fun (c6 : (lg_cmp ((G2 26 6) * (G2 26 4) - (G2 26 3) * (G2 26 7)) 0) ≤ 0) => ?_) (fun (c6 : ¬ (lg_cmp ((G2 26 6) * (G2 26 4) - (G2 26 3) * (G2 26 7)) 0) ≤ 0) => ?_)
        · skip
          replace c6 : ¬ (0 : Int64) < ((G2 26 6) * (G2 26 4) - (G2 26 3) * (G2 26 7)) := lg_le2.mp c6
          simp only [g3, g4, g5, g6, g7, g8] at c6
          refine go_blk (pc2 := 103) (L2 := [.ref 26, .ref 12, .int nd, .int sg, .int 0, .long ((G2 26 6) * (G2 26 4) - (G2 26 3) * (G2 26 7)), .null]) (st2 := [.int (lg_cmp ((G2 26 6) * (G2 26 4) - (G2 26 3) * (G2 26 7)) 0)]) (M2 := (A2, G2, PF)) (hs2 := []) (C := True) [(.lload 5, 0, 0), (.lconst 0, 0, 0), (.lcmp, 0, 0)] [] (by decide +kernel) rfl trivial ?_
          refine go_ifz (cnd := .ne) (off := 24) 127 (by decide +kernel) (by decide) (fun (c7 : ¬ (lg_cmp ((G2 26 6) * (G2 26 4) - (G2 26 3) * (G2 26 7)) 0) = 0) => ?_) (fun (c7 : (lg_cmp ((G2 26 6) * (G2 26 4) - (G2 26 3) * (G2 26 7)) 0) = 0) => ?_)
          · skip
            replace c7 : ¬ ((((G2 26 6) * (G2 26 4) - (G2 26 3) * (G2 26 7)) : Int64) = 0) := fun zz => c7 (lg_eq.mpr zz)
            simp only [g3, g4, g5, g6, g7, g8] at c7
            exact go_retv (by decide +kernel) rfl (⟨rfl, _, _, rfl, by
      have ho : incf (G 26 3, G 26 4, A 26 5) cc sg = (G 26 3, G 26 4, A 26 5) := by
        unfold incf ord
        simp [*]
      rw [ho]
      exact ⟨by (intro o k hh; (try rw [u2_ne (by omega)]); (try rw [u2_ne (by omega)])); exact hI.1 o k (by omega), by (intro o k hh; (try rw [u2_ne (by omega)]); (try rw [u2_ne (by omega)])); exact hI.2.1 o k (by omega), by simp [u2, g3, g6], by simp [u2, g4, g7], by simp [u2, g5]⟩⟩)
          · skip
            replace c7 : ((((G2 26 6) * (G2 26 4) - (G2 26 3) * (G2 26 7)) : Int64) = 0) := lg_eq.mp c7
            simp only [g3, g4, g5, g6, g7, g8] at c7
            refine go_blk (pc2 := 111) (L2 := [.ref 26, .ref 12, .int nd, .int sg, .int 0, .long ((G2 26 6) * (G2 26 4) - (G2 26 3) * (G2 26 7)), .null]) (st2 := [.int (A2 26 5), .ref 26]) (M2 := (A2, G2, PF)) (hs2 := []) (C := True) [(.aload_n 0, 0, 0), (.aload_n 0, 0, 0), (.getfield 26, 4, 5)] [] (by decide +kernel) rfl trivial ?_
            refine go_ifz (cnd := .ne) (off := 8) 119 (by decide +kernel) (by decide) (fun (c8 : ¬ (A2 26 5) = 0) => ?_) (fun (c8 : (A2 26 5) = 0) => ?_)
            · skip
              simp only [g3, g4, g5, g6, g7, g8] at c8
              refine go_blk (pc2 := 120) (L2 := [.ref 26, .ref 12, .int nd, .int sg, .int 0, .long ((G2 26 6) * (G2 26 4) - (G2 26 3) * (G2 26 7)), .null]) (st2 := [.int 1, .ref 26]) (M2 := (A2, G2, PF)) (hs2 := []) (C := True) [(.iconst 1, 0, 0)] [] (by decide +kernel) rfl trivial ?_
              refine go_goto (off := 4) 124 (by decide +kernel) (by decide) ?_
              refine go_blk (pc2 := 127) (L2 := [.ref 26, .ref 12, .int nd, .int sg, .int 0, .long ((G2 26 6) * (G2 26 4) - (G2 26 3) * (G2 26 7)), .null]) (st2 := []) (M2 := ((u2 A2 26 5 1), G2, PF)) (hs2 := []) (C := (1 = 0 ∨ 1 = 1) ∧ True) [(.putfield 26, 4, 5)] [] (by decide +kernel) rfl ⟨Or.inr rfl, trivial⟩ ?_
              exact go_retv (by decide +kernel) rfl (⟨rfl, _, _, rfl, by
      have ho : incf (G 26 3, G 26 4, A 26 5) cc sg = (G 26 3, G 26 4, 1) := by
        unfold incf ord
        simp [*]
      rw [ho]
      exact ⟨by (intro o k hh; (try rw [u2_ne (by omega)]); (try rw [u2_ne (by omega)])); exact hI.1 o k (by omega), by (intro o k hh; (try rw [u2_ne (by omega)]); (try rw [u2_ne (by omega)])); exact hI.2.1 o k (by omega), by simp [u2, g3, g6], by simp [u2, g4, g7], by simp [u2, g5]⟩⟩)
            · skip
              simp only [g3, g4, g5, g6, g7, g8] at c8
              refine go_blk (pc2 := 116) (L2 := [.ref 26, .ref 12, .int nd, .int sg, .int 0, .long ((G2 26 6) * (G2 26 4) - (G2 26 3) * (G2 26 7)), .null]) (st2 := [.int 0, .ref 26]) (M2 := (A2, G2, PF)) (hs2 := []) (C := True) [(.iload 4, 0, 0)] [] (by decide +kernel) rfl trivial ?_
              refine go_ifz (cnd := .eq) (off := 7) 123 (by decide +kernel) (by decide) (fun _ => ?_) (fun (h : ¬ (0 : Int32) = 0) => absurd h (by decide))
              refine go_blk (pc2 := 127) (L2 := [.ref 26, .ref 12, .int nd, .int sg, .int 0, .long ((G2 26 6) * (G2 26 4) - (G2 26 3) * (G2 26 7)), .null]) (st2 := []) (M2 := ((u2 A2 26 5 0), G2, PF)) (hs2 := []) (C := (0 = 0 ∨ 0 = 1) ∧ True) [(.iconst 0, 0, 0), (.putfield 26, 4, 5)] [] (by decide +kernel) rfl ⟨Or.inl rfl, trivial⟩ ?_
              exact go_retv (by decide +kernel) rfl (⟨rfl, _, _, rfl, by
      have ho : incf (G 26 3, G 26 4, A 26 5) cc sg = (G 26 3, G 26 4, 0) := by
        unfold incf ord
        simp [*]
      rw [ho]
      exact ⟨by (intro o k hh; (try rw [u2_ne (by omega)]); (try rw [u2_ne (by omega)])); exact hI.1 o k (by omega), by (intro o k hh; (try rw [u2_ne (by omega)]); (try rw [u2_ne (by omega)])); exact hI.2.1 o k (by omega), by simp [u2, g3, g6], by simp [u2, g4, g7], by simp [u2, g5]⟩⟩)
        · skip
          replace c6 : (0 : Int64) < ((G2 26 6) * (G2 26 4) - (G2 26 3) * (G2 26 7)) := Classical.byContradiction (fun zz => c6 (lg_le2.mpr zz))
          simp only [g3, g4, g5, g6, g7, g8] at c6
          refine go_blk (pc2 := 96) (L2 := [.ref 26, .ref 12, .int nd, .int sg, .int 0, .long ((G2 26 6) * (G2 26 4) - (G2 26 3) * (G2 26 7)), .null]) (st2 := []) (M2 := ((u2 A2 26 5 0), (u2 (u2 G2 26 3 (G2 26 6)) 26 4 (G2 26 7)), PF)) (hs2 := []) (C := (0 = 0 ∨ 0 = 1) ∧ True) [(.aload_n 0, 0, 0), (.aload_n 0, 0, 0), (.getfield 30, 4, 6), (.putfield 19, 4, 3), (.aload_n 0, 0, 0), (.aload_n 0, 0, 0), (.getfield 33, 4, 7), (.putfield 23, 4, 4), (.aload_n 0, 0, 0), (.iload 4, 0, 0), (.putfield 26, 4, 5)] [] (by decide +kernel) rfl ⟨Or.inl rfl, trivial⟩ ?_
          refine go_goto (off := 31) 127 (by decide +kernel) (by decide) ?_
          exact go_retv (by decide +kernel) rfl (⟨rfl, _, _, rfl, by
      have ho : incf (G 26 3, G 26 4, A 26 5) cc sg = (cc.1, cc.2.1, 0) := by
        unfold incf ord
        simp [*]
      rw [ho]
      exact ⟨by (intro o k hh; (try rw [u2_ne (by omega)]); (try rw [u2_ne (by omega)])); exact hI.1 o k (by omega), by (intro o k hh; (try rw [u2_ne (by omega)]); (try rw [u2_ne (by omega)])); exact hI.2.1 o k (by omega), by simp [u2, g3, g6], by simp [u2, g4, g7], by simp [u2, g5]⟩⟩)
      · skip
        replace c4 : ((G2 26 4 : Int64) = 0) := lg_eq.mp c4
        simp only [g3, g4, g5, g6, g7, g8] at c4
        refine go_blk (pc2 := 43) (L2 := [.ref 26, .ref 12, .int nd, .int sg, .int 0, .null, .null]) (st2 := [.long 1]) (M2 := (A2, G2, PF)) (hs2 := []) (C := True) [(.lconst 1, 0, 0)] [] (by decide +kernel) rfl trivial ?_
        refine go_goto (off := 22) 65 (by decide +kernel) (by decide) ?_
        refine go_blk (pc2 := 71) (L2 := [.ref 26, .ref 12, .int nd, .int sg, .int 0, .long 1, .null]) (st2 := [.int (lg_cmp 1 0)]) (M2 := (A2, G2, PF)) (hs2 := []) (C := True) [(.lstore 5, 0, 0), (.lload 5, 0, 0), (.lconst 0, 0, 0), (.lcmp, 0, 0)] [] (by decide +kernel) rfl trivial ?_
        refine go_ifz (cnd := .le) (off := 28) 99 (by decide +kernel) (by decide) (fun (h : (lg_cmp 1 0) ≤ 0) => absurd h (by decide)) (fun _ => ?_)
        refine go_blk (pc2 := 96) (L2 := [.ref 26, .ref 12, .int nd, .int sg, .int 0, .long 1, .null]) (st2 := []) (M2 := ((u2 A2 26 5 0), (u2 (u2 G2 26 3 (G2 26 6)) 26 4 (G2 26 7)), PF)) (hs2 := []) (C := (0 = 0 ∨ 0 = 1) ∧ True) [(.aload_n 0, 0, 0), (.aload_n 0, 0, 0), (.getfield 30, 4, 6), (.putfield 19, 4, 3), (.aload_n 0, 0, 0), (.aload_n 0, 0, 0), (.getfield 33, 4, 7), (.putfield 23, 4, 4), (.aload_n 0, 0, 0), (.iload 4, 0, 0), (.putfield 26, 4, 5)] [] (by decide +kernel) rfl ⟨Or.inl rfl, trivial⟩ ?_
        refine go_goto (off := 31) 127 (by decide +kernel) (by decide) ?_
        exact go_retv (by decide +kernel) rfl (⟨rfl, _, _, rfl, by
      have ho : incf (G 26 3, G 26 4, A 26 5) cc sg = (cc.1, cc.2.1, 0) := by
        unfold incf ord
        simp [*]
      rw [ho]
      exact ⟨by (intro o k hh; (try rw [u2_ne (by omega)]); (try rw [u2_ne (by omega)])); exact hI.1 o k (by omega), by (intro o k hh; (try rw [u2_ne (by omega)]); (try rw [u2_ne (by omega)])); exact hI.2.1 o k (by omega), by simp [u2, g3, g6], by simp [u2, g4, g7], by simp [u2, g5]⟩⟩)
    · skip
      simp only [g3, g4, g5, g6, g7, g8] at c3
      refine go_blk (pc2 := 27) (L2 := [.ref 26, .ref 12, .int nd, .int sg, .null, .null, .null]) (st2 := [.int 1]) (M2 := (A2, G2, PF)) (hs2 := []) (C := True) [(.iconst 1, 0, 0)] [] (by decide +kernel) rfl trivial ?_
      refine go_goto (off := 4) 31 (by decide +kernel) (by decide) ?_
      refine go_blk (pc2 := 39) (L2 := [.ref 26, .ref 12, .int nd, .int sg, .int 1, .null, .null]) (st2 := [.int (lg_cmp (G2 26 4) 0)]) (M2 := (A2, G2, PF)) (hs2 := []) (C := True) [(.istore 4, 0, 0), (.aload_n 0, 0, 0), (.getfield 23, 4, 4), (.lconst 0, 0, 0), (.lcmp, 0, 0)] [] (by decide +kernel) rfl trivial ?_
      refine go_ifz (cnd := .ne) (off := 7) 46 (by decide +kernel) (by decide) (fun (c9 : ¬ (lg_cmp (G2 26 4) 0) = 0) => ?_) (fun (c9 : (lg_cmp (G2 26 4) 0) = 0) => ?_)
      · skip
        replace c9 : ¬ ((G2 26 4 : Int64) = 0) := fun zz => c9 (lg_eq.mpr zz)
        simp only [g3, g4, g5, g6, g7, g8] at c9
        refine go_blk (pc2 := 62) (L2 := [.ref 26, .ref 12, .int nd, .int sg, .int 1, .null, .null]) (st2 := [.long (G2 26 4), .long (G2 26 3), .long (G2 26 7), .long (G2 26 6)]) (M2 := (A2, G2, PF)) (hs2 := []) (C := True) [(.aload_n 0, 0, 0), (.getfield 30, 4, 6), (.aload_n 0, 0, 0), (.getfield 33, 4, 7), (.aload_n 0, 0, 0), (.getfield 19, 4, 3), (.aload_n 0, 0, 0), (.getfield 23, 4, 4)] [] (by decide +kernel) rfl trivial ?_
        refine go_call (Y2 := mX4_compare) (n2 := 27) (st := []) [] [.long (G2 26 6), .long (G2 26 7), .long (G2 26 3), .long (G2 26 4)] ck_4_43 cwX4_compare rfl (by decide +kernel) rfl (fun _ => rfl) (fun h => absurd rfl h) (Nat.le_of_ble_eq_true rfl) (Or.inl rfl) (fun _ _ _ h => h) (s_X4_compare l A2 G2 (G2 26 6) (G2 26 7) (G2 26 3) (G2 26 4)) (fun v M2 hp10 => ?_)
        obtain ⟨rfl, rfl⟩ := hp10
        show Go l ro0 mX4_include 27 (A2, G2, PF) 65 [.ref 26, .ref 12, .int nd, .int sg, .int 1, .null, .null] [.long ((G2 26 6) * (G2 26 4) - (G2 26 3) * (G2 26 7))] 27 _
        refine go_blk (pc2 := 71) (L2 := [.ref 26, .ref 12, .int nd, .int sg, .int 1, .long ((G2 26 6) * (G2 26 4) - (G2 26 3) * (G2 26 7)), .null]) (st2 := [.int (lg_cmp ((G2 26 6) * (G2 26 4) - (G2 26 3) * (G2 26 7)) 0)]) (M2 := (A2, G2, PF)) (hs2 := []) (C := True) [(.lstore 5, 0, 0), (.lload 5, 0, 0), (.lconst 0, 0, 0), (.lcmp, 0, 0)] [] (by decide +kernel) rfl trivial ?_
        refine go_ifz (cnd := .le) (off := 28) 99 (by decide +kernel) (by decide) (fun (c11 : (lg_cmp ((G2 26 6) * (G2 26 4) - (G2 26 3) * (G2 26 7)) 0) ≤ 0) => ?_) (fun (c11 : ¬ (lg_cmp ((G2 26 6) * (G2 26 4) - (G2 26 3) * (G2 26 7)) 0) ≤ 0) => ?_)
        · skip
          replace c11 : ¬ (0 : Int64) < ((G2 26 6) * (G2 26 4) - (G2 26 3) * (G2 26 7)) := lg_le2.mp c11
          simp only [g3, g4, g5, g6, g7, g8] at c11
          refine go_blk (pc2 := 103) (L2 := [.ref 26, .ref 12, .int nd, .int sg, .int 1, .long ((G2 26 6) * (G2 26 4) - (G2 26 3) * (G2 26 7)), .null]) (st2 := [.int (lg_cmp ((G2 26 6) * (G2 26 4) - (G2 26 3) * (G2 26 7)) 0)]) (M2 := (A2, G2, PF)) (hs2 := []) (C := True) [(.lload 5, 0, 0), (.lconst 0, 0, 0), (.lcmp, 0, 0)] [] (by decide +kernel) rfl trivial ?_
          refine go_ifz (cnd := .ne) (off := 24) 127 (by decide +kernel) (by decide) (fun (c12 : ¬ (lg_cmp ((G2 26 6) * (G2 26 4) - (G2 26 3) * (G2 26 7)) 0) = 0) => ?_) (fun (c12 : (lg_cmp ((G2 26 6) * (G2 26 4) - (G2 26 3) * (G2 26 7)) 0) = 0) => ?_)
          · skip
            replace c12 : ¬ ((((G2 26 6) * (G2 26 4) - (G2 26 3) * (G2 26 7)) : Int64) = 0) := fun zz => c12 (lg_eq.mpr zz)
            simp only [g3, g4, g5, g6, g7, g8] at c12
            exact go_retv (by decide +kernel) rfl (⟨rfl, _, _, rfl, by
      have ho : incf (G 26 3, G 26 4, A 26 5) cc sg = (G 26 3, G 26 4, A 26 5) := by
        unfold incf ord
        simp [*]
      rw [ho]
      exact ⟨by (intro o k hh; (try rw [u2_ne (by omega)]); (try rw [u2_ne (by omega)])); exact hI.1 o k (by omega), by (intro o k hh; (try rw [u2_ne (by omega)]); (try rw [u2_ne (by omega)])); exact hI.2.1 o k (by omega), by simp [u2, g3, g6], by simp [u2, g4, g7], by simp [u2, g5]⟩⟩)
          · skip
            replace c12 : ((((G2 26 6) * (G2 26 4) - (G2 26 3) * (G2 26 7)) : Int64) = 0) := lg_eq.mp c12
            simp only [g3, g4, g5, g6, g7, g8] at c12
            refine go_blk (pc2 := 111) (L2 := [.ref 26, .ref 12, .int nd, .int sg, .int 1, .long ((G2 26 6) * (G2 26 4) - (G2 26 3) * (G2 26 7)), .null]) (st2 := [.int (A2 26 5), .ref 26]) (M2 := (A2, G2, PF)) (hs2 := []) (C := True) [(.aload_n 0, 0, 0), (.aload_n 0, 0, 0), (.getfield 26, 4, 5)] [] (by decide +kernel) rfl trivial ?_
            refine go_ifz (cnd := .ne) (off := 8) 119 (by decide +kernel) (by decide) (fun (c13 : ¬ (A2 26 5) = 0) => ?_) (fun (c13 : (A2 26 5) = 0) => ?_)
            · skip
              simp only [g3, g4, g5, g6, g7, g8] at c13
              refine go_blk (pc2 := 120) (L2 := [.ref 26, .ref 12, .int nd, .int sg, .int 1, .long ((G2 26 6) * (G2 26 4) - (G2 26 3) * (G2 26 7)), .null]) (st2 := [.int 1, .ref 26]) (M2 := (A2, G2, PF)) (hs2 := []) (C := True) [(.iconst 1, 0, 0)] [] (by decide +kernel) rfl trivial ?_
              refine go_goto (off := 4) 124 (by decide +kernel) (by decide) ?_
              refine go_blk (pc2 := 127) (L2 := [.ref 26, .ref 12, .int nd, .int sg, .int 1, .long ((G2 26 6) * (G2 26 4) - (G2 26 3) * (G2 26 7)), .null]) (st2 := []) (M2 := ((u2 A2 26 5 1), G2, PF)) (hs2 := []) (C := (1 = 0 ∨ 1 = 1) ∧ True) [(.putfield 26, 4, 5)] [] (by decide +kernel) rfl ⟨Or.inr rfl, trivial⟩ ?_
              exact go_retv (by decide +kernel) rfl (⟨rfl, _, _, rfl, by
      have ho : incf (G 26 3, G 26 4, A 26 5) cc sg = (G 26 3, G 26 4, 1) := by
        unfold incf ord
        simp [*]
      rw [ho]
      exact ⟨by (intro o k hh; (try rw [u2_ne (by omega)]); (try rw [u2_ne (by omega)])); exact hI.1 o k (by omega), by (intro o k hh; (try rw [u2_ne (by omega)]); (try rw [u2_ne (by omega)])); exact hI.2.1 o k (by omega), by simp [u2, g3, g6], by simp [u2, g4, g7], by simp [u2, g5]⟩⟩)
            · skip
              simp only [g3, g4, g5, g6, g7, g8] at c13
              refine go_blk (pc2 := 116) (L2 := [.ref 26, .ref 12, .int nd, .int sg, .int 1, .long ((G2 26 6) * (G2 26 4) - (G2 26 3) * (G2 26 7)), .null]) (st2 := [.int 1, .ref 26]) (M2 := (A2, G2, PF)) (hs2 := []) (C := True) [(.iload 4, 0, 0)] [] (by decide +kernel) rfl trivial ?_
              refine go_ifz (cnd := .eq) (off := 7) 123 (by decide +kernel) (by decide) (fun (h : (1 : Int32) = 0) => absurd h (by decide)) (fun _ => ?_)
              refine go_blk (pc2 := 120) (L2 := [.ref 26, .ref 12, .int nd, .int sg, .int 1, .long ((G2 26 6) * (G2 26 4) - (G2 26 3) * (G2 26 7)), .null]) (st2 := [.int 1, .ref 26]) (M2 := (A2, G2, PF)) (hs2 := []) (C := True) [(.iconst 1, 0, 0)] [] (by decide +kernel) rfl trivial ?_
              refine go_goto (off := 4) 124 (by decide +kernel) (by decide) ?_
              refine go_blk (pc2 := 127) (L2 := [.ref 26, .ref 12, .int nd, .int sg, .int 1, .long ((G2 26 6) * (G2 26 4) - (G2 26 3) * (G2 26 7)), .null]) (st2 := []) (M2 := ((u2 A2 26 5 1), G2, PF)) (hs2 := []) (C := (1 = 0 ∨ 1 = 1) ∧ True) [(.putfield 26, 4, 5)] [] (by decide +kernel) rfl ⟨Or.inr rfl, trivial⟩ ?_
              exact go_retv (by decide +kernel) rfl (⟨rfl, _, _, rfl, by
      have ho : incf (G 26 3, G 26 4, A 26 5) cc sg = (G 26 3, G 26 4, 1) := by
        unfold incf ord
        simp [*]
      rw [ho]
      exact ⟨by (intro o k hh; (try rw [u2_ne (by omega)]); (try rw [u2_ne (by omega)])); exact hI.1 o k (by omega), by (intro o k hh; (try rw [u2_ne (by omega)]); (try rw [u2_ne (by omega)])); exact hI.2.1 o k (by omega), by simp [u2, g3, g6], by simp [u2, g4, g7], by simp [u2, g5]⟩⟩)
        · skip
          replace c11 : (0 : Int64) < ((G2 26 6) * (G2 26 4) - (G2 26 3) * (G2 26 7)) := Classical.byContradiction (fun zz => c11 (lg_le2.mpr zz))
          simp only [g3, g4, g5, g6, g7, g8] at c11
          refine go_blk (pc2 := 96) (L2 := [.ref 26, .ref 12, .int nd, .int sg, .int 1, .long ((G2 26 6) * (G2 26 4) - (G2 26 3) * (G2 26 7)), .null]) (st2 := []) (M2 := ((u2 A2 26 5 1), (u2 (u2 G2 26 3 (G2 26 6)) 26 4 (G2 26 7)), PF)) (hs2 := []) (C := (1 = 0 ∨ 1 = 1) ∧ True) [(.aload_n 0, 0, 0), (.aload_n 0, 0, 0), (.getfield 30, 4, 6), (.putfield 19, 4, 3), (.aload_n 0, 0, 0), (.aload_n 0, 0, 0), (.getfield 33, 4, 7), (.putfield 23, 4, 4), (.aload_n 0, 0, 0), (.iload 4, 0, 0), (.putfield 26, 4, 5)] [] (by decide +kernel) rfl ⟨Or.inr rfl, trivial⟩ ?_
          refine go_goto (off := 31) 127 (by decide +kernel) (by decide) ?_
          exact go_retv (by decide +kernel) rfl (⟨rfl, _, _, rfl, by
      have ho : incf (G 26 3, G 26 4, A 26 5) cc sg = (cc.1, cc.2.1, 1) := by
        unfold incf ord
        simp [*]
      rw [ho]
      exact ⟨by (intro o k hh; (try rw [u2_ne (by omega)]); (try rw [u2_ne (by omega)])); exact hI.1 o k (by omega), by (intro o k hh; (try rw [u2_ne (by omega)]); (try rw [u2_ne (by omega)])); exact hI.2.1 o k (by omega), by simp [u2, g3, g6], by simp [u2, g4, g7], by simp [u2, g5]⟩⟩)
      · skip
        replace c9 : ((G2 26 4 : Int64) = 0) := lg_eq.mp c9
        simp only [g3, g4, g5, g6, g7, g8] at c9
        refine go_blk (pc2 := 43) (L2 := [.ref 26, .ref 12, .int nd, .int sg, .int 1, .null, .null]) (st2 := [.long 1]) (M2 := (A2, G2, PF)) (hs2 := []) (C := True) [(.lconst 1, 0, 0)] [] (by decide +kernel) rfl trivial ?_
        refine go_goto (off := 22) 65 (by decide +kernel) (by decide) ?_
        refine go_blk (pc2 := 71) (L2 := [.ref 26, .ref 12, .int nd, .int sg, .int 1, .long 1, .null]) (st2 := [.int (lg_cmp 1 0)]) (M2 := (A2, G2, PF)) (hs2 := []) (C := True) [(.lstore 5, 0, 0), (.lload 5, 0, 0), (.lconst 0, 0, 0), (.lcmp, 0, 0)] [] (by decide +kernel) rfl trivial ?_
        refine go_ifz (cnd := .le) (off := 28) 99 (by decide +kernel) (by decide) (fun (h : (lg_cmp 1 0) ≤ 0) => absurd h (by decide)) (fun _ => ?_)
        refine go_blk (pc2 := 96) (L2 := [.ref 26, .ref 12, .int nd, .int sg, .int 1, .long 1, .null]) (st2 := []) (M2 := ((u2 A2 26 5 1), (u2 (u2 G2 26 3 (G2 26 6)) 26 4 (G2 26 7)), PF)) (hs2 := []) (C := (1 = 0 ∨ 1 = 1) ∧ True) [(.aload_n 0, 0, 0), (.aload_n 0, 0, 0), (.getfield 30, 4, 6), (.putfield 19, 4, 3), (.aload_n 0, 0, 0), (.aload_n 0, 0, 0), (.getfield 33, 4, 7), (.putfield 23, 4, 4), (.aload_n 0, 0, 0), (.iload 4, 0, 0), (.putfield 26, 4, 5)] [] (by decide +kernel) rfl ⟨Or.inr rfl, trivial⟩ ?_
        refine go_goto (off := 31) 127 (by decide +kernel) (by decide) ?_
        exact go_retv (by decide +kernel) rfl (⟨rfl, _, _, rfl, by
      have ho : incf (G 26 3, G 26 4, A 26 5) cc sg = (cc.1, cc.2.1, 1) := by
        unfold incf ord
        simp [*]
      rw [ho]
      exact ⟨by (intro o k hh; (try rw [u2_ne (by omega)]); (try rw [u2_ne (by omega)])); exact hI.1 o k (by omega), by (intro o k hh; (try rw [u2_ne (by omega)]); (try rw [u2_ne (by omega)])); exact hI.2.1 o k (by omega), by simp [u2, g3, g6], by simp [u2, g4, g7], by simp [u2, g5]⟩⟩)
  · skip
    replace c2 : ((G2 26 7 : Int64) = 0) := lg_eq.mp c2
    simp only [g3, g4, g5, g6, g7, g8] at c2
    exact go_retv (by decide +kernel) rfl (⟨rfl, _, _, rfl, by
      have ho : incf (G 26 3, G 26 4, A 26 5) cc sg = (G 26 3, G 26 4, A 26 5) := by
        unfold incf ord
        simp [*]
      rw [ho]
      exact ⟨by (intro o k hh; (try rw [u2_ne (by omega)]); (try rw [u2_ne (by omega)])); exact hI.1 o k (by omega), by (intro o k hh; (try rw [u2_ne (by omega)]); (try rw [u2_ne (by omega)])); exact hI.2.1 o k (by omega), by simp [u2, g3, g6], by simp [u2, g4, g7], by simp [u2, g5]⟩⟩)
theorem gcd_step {h w : Nat} : Nat.gcd h w = Nat.gcd w (h % w) := by
  rw [Nat.gcd_comm, Nat.gcd_rec, Nat.gcd_comm]
theorem half_step {h w : Nat} (hw : 0 < w) (hlt : w < h) : 2 * (w * (h % w)) ≤ h * w := by
  have h1 : h % w < w := Nat.mod_lt _ hw
  have h2 : h % w + w * (h / w) = h := Nat.mod_add_div h w
  have h3 : 1 ≤ h / w := Nat.div_pos (by omega) hw
  have h4 : w * 1 ≤ w * (h / w) := Nat.mul_le_mul_left w h3
  have h5 : 2 * (h % w) ≤ h := by omega
  calc 2 * (w * (h % w)) = w * (2 * (h % w)) := by rw [Nat.mul_left_comm]
    _ ≤ w * h := Nat.mul_le_mul_left w h5
    _ = h * w := Nat.mul_comm _ _
theorem lN_pos {w : Nat} (hw : w < 2 ^ 62) : (0 : Int64) < lN w ↔ 0 < w := by
  rw [show (0 : Int64) = lN 0 from rfl]
  exact pk_lLT (by decide) (by omega)
theorem lN_ne {w : Nat} (hw : w < 2 ^ 62) (h : 0 < w) : ¬ lN w = 0 := by
  rw [show (0 : Int64) = lN 0 from rfl]
  intro zz
  exact absurd ((pk_lEQ (by omega) (by decide)).mp zz) (by omega)
set_option maxRecDepth 100000 in
set_option maxHeartbeats 4000000 in
theorem lp_X4_commonDivisor (l : Launch) (A : Nat → Nat → Int32) (G : Nat → Nat → Int64) (f g : Int64) (h0 w0 : Nat) : ∀ r st h1 w1 : Nat, h1 < 2 ^ 62 → w1 < 2 ^ 62 → h1 * w1 < 2 ^ r → st + r < 900 → w1 < h1 → Nat.gcd h1 w1 = Nat.gcd h0 w0 → ∀ j1 j2 : Value, Go l ro0 mX4_commonDivisor 27 (A, G, PF) 12 [.long f, .null, .long g, .null, .long (lN h1), .null, .long (lN w1), .null, .int (nI st), j1, j2] [] 27 (pl (lN (Nat.gcd h0 w0)) (A, G, PF)) := by
  intro r
  induction r with
  | zero =>
    intro st h1 w1 hh hw hb hst hwh hgc j1 j2
    have hr0 : w1 = 0 := by
      rcases Nat.eq_zero_or_pos w1 with q | q
      · exact q
      · exact absurd hb (Nat.not_lt.mpr (Nat.mul_pos (by omega) q))
    subst hr0
    refine go_blk (pc2 := 17) (L2 := [.long f, .null, .long g, .null, .long (lN h1), .null, .long (lN 0), .null, .int (nI st), j1, j2]) (st2 := [.int 1000, .int (nI st)]) (M2 := (A, G, PF)) (hs2 := []) (C := True) [(.iload 8, 0, 0), (.sipush 1000, 0, 0)] [] (by decide +kernel) rfl trivial ?_
    refine go_cmp (cnd := .ge) (off := 31) 48 (by decide +kernel) (by decide) (fun (h : 1000 ≤ (nI st)) => absurd h (fun zz => absurd ((nx_le (a := 1000) (b := st) rfl rfl (by omega) (by omega)).mp zz) (by omega))) (fun _ => ?_)
    refine go_blk (pc2 := 24) (L2 := [.long f, .null, .long g, .null, .long (lN h1), .null, .long (lN 0), .null, .int (nI st), j1, j2]) (st2 := [.int (lg_cmp (lN 0) 0)]) (M2 := (A, G, PF)) (hs2 := []) (C := True) [(.lload 6, 0, 0), (.lconst 0, 0, 0), (.lcmp, 0, 0)] [] (by decide +kernel) rfl trivial ?_
    refine go_ifz (cnd := .le) (off := 24) 48 (by decide +kernel) (by decide) (fun _ => ?_) (fun (h : ¬ (lg_cmp (lN 0) 0) ≤ 0) => absurd h (fun zz => zz (lg_le2.mpr (by decide))))
    refine go_blk (pc2 := 50) (L2 := [.long f, .null, .long g, .null, .long (lN h1), .null, .long (lN 0), .null, .int (nI st), j1, j2]) (st2 := [.long (lN h1)]) (M2 := (A, G, PF)) (hs2 := []) (C := True) [(.lload 4, 0, 0)] [] (by decide +kernel) rfl trivial ?_
    exact go_retl (by decide +kernel) rfl (ple (by rw [← hgc, Nat.gcd_zero_right]))
  | succ r ih =>
    intro st h1 w1 hh hw hb hst hwh hgc j1 j2
    refine go_blk (pc2 := 17) (L2 := [.long f, .null, .long g, .null, .long (lN h1), .null, .long (lN w1), .null, .int (nI st), j1, j2]) (st2 := [.int 1000, .int (nI st)]) (M2 := (A, G, PF)) (hs2 := []) (C := True) [(.iload 8, 0, 0), (.sipush 1000, 0, 0)] [] (by decide +kernel) rfl trivial ?_
    refine go_cmp (cnd := .ge) (off := 31) 48 (by decide +kernel) (by decide) (fun (h : 1000 ≤ (nI st)) => absurd h (fun zz => absurd ((nx_le (a := 1000) (b := st) rfl rfl (by omega) (by omega)).mp zz) (by omega))) (fun _ => ?_)
    refine go_blk (pc2 := 24) (L2 := [.long f, .null, .long g, .null, .long (lN h1), .null, .long (lN w1), .null, .int (nI st), j1, j2]) (st2 := [.int (lg_cmp (lN w1) 0)]) (M2 := (A, G, PF)) (hs2 := []) (C := True) [(.lload 6, 0, 0), (.lconst 0, 0, 0), (.lcmp, 0, 0)] [] (by decide +kernel) rfl trivial ?_
    refine go_ifz (cnd := .le) (off := 24) 48 (by decide +kernel) (by decide) (fun (c1 : (lg_cmp (lN w1) 0) ≤ 0) => ?_) (fun (c1 : ¬ (lg_cmp (lN w1) 0) ≤ 0) => ?_)
    · skip
      replace c1 : ¬ (0 : Int64) < (lN w1) := lg_le2.mp c1
      replace c1 : ¬ 0 < w1 := fun zz => c1 ((lN_pos (by omega)).mpr zz)
      refine go_blk (pc2 := 50) (L2 := [.long f, .null, .long g, .null, .long (lN h1), .null, .long (lN w1), .null, .int (nI st), j1, j2]) (st2 := [.long (lN h1)]) (M2 := (A, G, PF)) (hs2 := []) (C := True) [(.lload 4, 0, 0)] [] (by decide +kernel) rfl trivial ?_
      exact go_retl (by decide +kernel) rfl (ple (by rw [← hgc, show w1 = 0 by omega, Nat.gcd_zero_right]))
    · skip
      replace c1 : (0 : Int64) < (lN w1) := Classical.byContradiction (fun zz => c1 (lg_le2.mpr zz))
      have hw0 : 0 < w1 := (lN_pos (by omega)).mp c1
      have hx1 : h1 % w1 < w1 := Nat.mod_lt _ hw0
      refine go_blk (pc2 := 45) (L2 := [.long f, .null, .long g, .null, .long (lN w1), .null, .long ((lN h1) - ((lN h1) / (lN w1)) * (lN w1)), .null, .int ((nI st) + 1), .long ((lN h1) - ((lN h1) / (lN w1)) * (lN w1)), .null]) (st2 := []) (M2 := (A, G, PF)) (hs2 := []) (C := (¬ (lN w1) = 0) ∧ True) [(.lload 4, 0, 0), (.lload 6, 0, 0), (.lrem, 0, 0), (.lstore 9, 0, 0), (.lload 6, 0, 0), (.lstore 4, 0, 0), (.lload 9, 0, 0), (.lstore 6, 0, 0), (.iinc 8 1, 0, 0)] [] (by decide +kernel) rfl ⟨lN_ne (by omega) hw0, trivial⟩ ?_
      refine go_goto (off := -33) 12 (by decide +kernel) (by decide) ?_
      exact go_as (ih (st + 1) w1 (h1 % w1) (by omega) (by omega) (by have := half_step hw0 hwh; rw [Nat.pow_succ] at hb; omega) (by omega) hx1 (by rw [← gcd_step]; exact hgc) (.long ((lN h1) - ((lN h1) / (lN w1)) * (lN w1))) (.null)) rfl (by rw [pk_lRem (by omega) hw0 (by omega), nI_1]) rfl
set_option maxRecDepth 100000 in
set_option maxHeartbeats 4000000 in
theorem s_X4_commonDivisor (l : Launch) (A : Nat → Nat → Int32) (G : Nat → Nat → Int64) (f : Int64) (h0 w0 : Nat) (hf : (if 0 < f then f else -f) = lN h0) (hh0 : h0 < 2 ^ 40) (hw1 : w0 < 8192) : Sem l mX4_commonDivisor [.long f, .long (lN w0)] 27 (A, G, PF) 27 (pl (lN (Nat.gcd h0 w0)) (A, G, PF)) := by
  refine sem_of_go (by decide) rfl (by decide) (by decide) rfl (Nat.le_of_ble_eq_true rfl) ?_
  show Go l ro0 mX4_commonDivisor 27 (A, G, PF) 0 [.long f, .null, .long (lN w0), .null, .null, .null, .null, .null, .null, .null, .null] [] 27 (pl (lN (Nat.gcd h0 w0)) (A, G, PF))
  refine go_blk (pc2 := 1) (L2 := [.long f, .null, .long (lN w0), .null, .null, .null, .null, .null, .null, .null, .null]) (st2 := [.long f]) (M2 := (A, G, PF)) (hs2 := []) (C := True) [(.lload_n 0, 0, 0)] [] (by decide +kernel) rfl trivial ?_
  refine go_abs rfl (by decide +kernel) ⟨by decide, Nat.le_of_ble_eq_true rfl⟩ (by decide) ?_
  refine go_blk (pc2 := 12) (L2 := [.long f, .null, .long (lN w0), .null, .long (if 0 < f then f else -f), .null, .long (lN w0), .null, .int 0, .null, .null]) (st2 := []) (M2 := (A, G, PF)) (hs2 := []) (C := True) [(.lstore 4, 0, 0), (.lload_n 2, 0, 0), (.lstore 6, 0, 0), (.iconst 0, 0, 0), (.istore 8, 0, 0)] [] (by decide +kernel) rfl trivial ?_
  rw [hf]
  refine go_blk (pc2 := 17) (L2 := [.long f, .null, .long (lN w0), .null, .long (lN h0), .null, .long (lN w0), .null, .int 0, .null, .null]) (st2 := [.int 1000, .int 0]) (M2 := (A, G, PF)) (hs2 := []) (C := True) [(.iload 8, 0, 0), (.sipush 1000, 0, 0)] [] (by decide +kernel) rfl trivial ?_
  refine go_cmp (cnd := .ge) (off := 31) 48 (by decide +kernel) (by decide) (fun (h : 1000 ≤ (0 : Int32)) => absurd h (by decide)) (fun _ => ?_)
  refine go_blk (pc2 := 24) (L2 := [.long f, .null, .long (lN w0), .null, .long (lN h0), .null, .long (lN w0), .null, .int 0, .null, .null]) (st2 := [.int (lg_cmp (lN w0) 0)]) (M2 := (A, G, PF)) (hs2 := []) (C := True) [(.lload 6, 0, 0), (.lconst 0, 0, 0), (.lcmp, 0, 0)] [] (by decide +kernel) rfl trivial ?_
  refine go_ifz (cnd := .le) (off := 24) 48 (by decide +kernel) (by decide) (fun (c1 : (lg_cmp (lN w0) 0) ≤ 0) => ?_) (fun (c1 : ¬ (lg_cmp (lN w0) 0) ≤ 0) => ?_)
  · skip
    replace c1 : ¬ (0 : Int64) < (lN w0) := lg_le2.mp c1
    replace c1 : ¬ 0 < w0 := fun zz => c1 ((lN_pos (by omega)).mpr zz)
    refine go_blk (pc2 := 50) (L2 := [.long f, .null, .long (lN w0), .null, .long (lN h0), .null, .long (lN w0), .null, .int 0, .null, .null]) (st2 := [.long (lN h0)]) (M2 := (A, G, PF)) (hs2 := []) (C := True) [(.lload 4, 0, 0)] [] (by decide +kernel) rfl trivial ?_
    exact go_retl (by decide +kernel) rfl (ple (by rw [show w0 = 0 by omega, Nat.gcd_zero_right]))
  · skip
    replace c1 : (0 : Int64) < (lN w0) := Classical.byContradiction (fun zz => c1 (lg_le2.mpr zz))
    have hw0 : 0 < w0 := (lN_pos (by omega)).mp c1
    have hx1 : h0 % w0 < w0 := Nat.mod_lt _ hw0
    refine go_blk (pc2 := 45) (L2 := [.long f, .null, .long (lN w0), .null, .long (lN w0), .null, .long ((lN h0) - ((lN h0) / (lN w0)) * (lN w0)), .null, .int (0 + 1), .long ((lN h0) - ((lN h0) / (lN w0)) * (lN w0)), .null]) (st2 := []) (M2 := (A, G, PF)) (hs2 := []) (C := (¬ (lN w0) = 0) ∧ True) [(.lload 4, 0, 0), (.lload 6, 0, 0), (.lrem, 0, 0), (.lstore 9, 0, 0), (.lload 6, 0, 0), (.lstore 4, 0, 0), (.lload 9, 0, 0), (.lstore 6, 0, 0), (.iinc 8 1, 0, 0)] [] (by decide +kernel) rfl ⟨lN_ne (by omega) hw0, trivial⟩ ?_
    refine go_goto (off := -33) 12 (by decide +kernel) (by decide) ?_
    exact go_as (lp_X4_commonDivisor l A G f (lN w0) h0 w0 40 1 w0 (h0 % w0) (by omega) (by omega) (by have h4 : w0 * (h0 % w0) ≤ 8192 * 8192 := Nat.mul_le_mul (by omega) (by omega); exact Nat.lt_of_le_of_lt h4 (by decide)) (by decide) hx1 gcd_step.symm (.long ((lN h0) - ((lN h0) / (lN w0)) * (lN w0))) (.null)) rfl (by rw [pk_lRem (by omega) hw0 (by omega)]; rfl) rfl
set_option maxRecDepth 100000 in
set_option maxHeartbeats 4000000 in
theorem s_X4_reducedOver (l : Launch) (A : Nat → Nat → Int32) (G : Nat → Nat → Int64) (h0 w0 : Nat) (hf : (if 0 < G 26 3 then G 26 3 else -(G 26 3)) = lN h0) (hh0 : h0 < 2 ^ 40) (hw1 : w0 < 8192) (hw : G 26 4 = lN w0) : Sem l mX4_reducedOver [.ref 26] 27 (A, G, PF) 27 (pl (if 0 < lN (Nat.gcd h0 w0) then G 26 3 / lN (Nat.gcd h0 w0) else 0) (A, G, PF)) := by
  refine sem_of_go (by decide) rfl (by decide) (by decide) rfl (Nat.le_of_ble_eq_true rfl) ?_
  show Go l ro0 mX4_reducedOver 27 (A, G, PF) 0 [.ref 26, .null, .null] [] 27 (pl (if 0 < lN (Nat.gcd h0 w0) then G 26 3 / lN (Nat.gcd h0 w0) else 0) (A, G, PF))
  refine go_blk (pc2 := 8) (L2 := [.ref 26, .null, .null]) (st2 := [.long (G 26 4), .long (G 26 3)]) (M2 := (A, G, PF)) (hs2 := []) (C := True) [(.aload_n 0, 0, 0), (.getfield 19, 4, 3), (.aload_n 0, 0, 0), (.getfield 23, 4, 4)] [] (by decide +kernel) rfl trivial ?_
  refine go_call (Y2 := mX4_commonDivisor) (n2 := 27) (st := []) [] [.long (G 26 3), .long (G 26 4)] ck_4_68 cwX4_commonDivisor rfl (by decide +kernel) rfl (fun _ => rfl) (fun h => absurd rfl h) (Nat.le_of_ble_eq_true rfl) (Or.inl rfl) (fun _ _ _ h => h) (by rw [hw]; exact s_X4_commonDivisor l A G (G 26 3) h0 w0 hf hh0 hw1) (fun v M2 hp1 => ?_)
  obtain ⟨rfl, rfl⟩ := hp1
  show Go l ro0 mX4_reducedOver 27 (A, G, PF) 11 [.ref 26, .null, .null] [.long (lN (Nat.gcd h0 w0))] 27 _
  refine go_blk (pc2 := 15) (L2 := [.ref 26, .long (lN (Nat.gcd h0 w0)), .null]) (st2 := [.int (lg_cmp (lN (Nat.gcd h0 w0)) 0)]) (M2 := (A, G, PF)) (hs2 := []) (C := True) [(.lstore_n 1, 0, 0), (.lload_n 1, 0, 0), (.lconst 0, 0, 0), (.lcmp, 0, 0)] [] (by decide +kernel) rfl trivial ?_
  refine go_ifz (cnd := .le) (off := 12) 27 (by decide +kernel) (by decide) (fun (c2 : (lg_cmp (lN (Nat.gcd h0 w0)) 0) ≤ 0) => ?_) (fun (c2 : ¬ (lg_cmp (lN (Nat.gcd h0 w0)) 0) ≤ 0) => ?_)
  · skip
    replace c2 : ¬ (0 : Int64) < (lN (Nat.gcd h0 w0)) := lg_le2.mp c2
    refine go_blk (pc2 := 28) (L2 := [.ref 26, .long (lN (Nat.gcd h0 w0)), .null]) (st2 := [.long 0]) (M2 := (A, G, PF)) (hs2 := []) (C := True) [(.lconst 0, 0, 0)] [] (by decide +kernel) rfl trivial ?_
    exact go_retl (by decide +kernel) rfl (ple (by first | rw [if_pos (by assumption)] | rw [if_neg (by assumption)]))
  · skip
    replace c2 : (0 : Int64) < (lN (Nat.gcd h0 w0)) := Classical.byContradiction (fun zz => c2 (lg_le2.mpr zz))
    refine go_blk (pc2 := 24) (L2 := [.ref 26, .long (lN (Nat.gcd h0 w0)), .null]) (st2 := [.long ((G 26 3) / (lN (Nat.gcd h0 w0)))]) (M2 := (A, G, PF)) (hs2 := []) (C := (¬ (lN (Nat.gcd h0 w0)) = 0) ∧ True) [(.aload_n 0, 0, 0), (.getfield 19, 4, 3), (.lload_n 1, 0, 0), (.ldiv, 0, 0)] [] (by decide +kernel) rfl ⟨fun zz => absurd (zz ▸ (by assumption : (0 : Int64) < lN (Nat.gcd h0 w0))) (by decide), trivial⟩ ?_
    refine go_goto (off := 4) 28 (by decide +kernel) (by decide) ?_
    exact go_retl (by decide +kernel) rfl (ple (by first | rw [if_pos (by assumption)] | rw [if_neg (by assumption)]))
set_option maxRecDepth 100000 in
set_option maxHeartbeats 4000000 in
theorem s_X4_reducedUnder (l : Launch) (A : Nat → Nat → Int32) (G : Nat → Nat → Int64) (h0 w0 : Nat) (hf : (if 0 < G 26 3 then G 26 3 else -(G 26 3)) = lN h0) (hh0 : h0 < 2 ^ 40) (hw1 : w0 < 8192) (hw : G 26 4 = lN w0) : Sem l mX4_reducedUnder [.ref 26] 27 (A, G, PF) 27 (pl (if 0 < lN (Nat.gcd h0 w0) then G 26 4 / lN (Nat.gcd h0 w0) else 0) (A, G, PF)) := by
  refine sem_of_go (by decide) rfl (by decide) (by decide) rfl (Nat.le_of_ble_eq_true rfl) ?_
  show Go l ro0 mX4_reducedUnder 27 (A, G, PF) 0 [.ref 26, .null, .null] [] 27 (pl (if 0 < lN (Nat.gcd h0 w0) then G 26 4 / lN (Nat.gcd h0 w0) else 0) (A, G, PF))
  refine go_blk (pc2 := 8) (L2 := [.ref 26, .null, .null]) (st2 := [.long (G 26 4), .long (G 26 3)]) (M2 := (A, G, PF)) (hs2 := []) (C := True) [(.aload_n 0, 0, 0), (.getfield 19, 4, 3), (.aload_n 0, 0, 0), (.getfield 23, 4, 4)] [] (by decide +kernel) rfl trivial ?_
  refine go_call (Y2 := mX4_commonDivisor) (n2 := 27) (st := []) [] [.long (G 26 3), .long (G 26 4)] ck_4_68 cwX4_commonDivisor rfl (by decide +kernel) rfl (fun _ => rfl) (fun h => absurd rfl h) (Nat.le_of_ble_eq_true rfl) (Or.inl rfl) (fun _ _ _ h => h) (by rw [hw]; exact s_X4_commonDivisor l A G (G 26 3) h0 w0 hf hh0 hw1) (fun v M2 hp1 => ?_)
  obtain ⟨rfl, rfl⟩ := hp1
  show Go l ro0 mX4_reducedUnder 27 (A, G, PF) 11 [.ref 26, .null, .null] [.long (lN (Nat.gcd h0 w0))] 27 _
  refine go_blk (pc2 := 15) (L2 := [.ref 26, .long (lN (Nat.gcd h0 w0)), .null]) (st2 := [.int (lg_cmp (lN (Nat.gcd h0 w0)) 0)]) (M2 := (A, G, PF)) (hs2 := []) (C := True) [(.lstore_n 1, 0, 0), (.lload_n 1, 0, 0), (.lconst 0, 0, 0), (.lcmp, 0, 0)] [] (by decide +kernel) rfl trivial ?_
  refine go_ifz (cnd := .le) (off := 12) 27 (by decide +kernel) (by decide) (fun (c2 : (lg_cmp (lN (Nat.gcd h0 w0)) 0) ≤ 0) => ?_) (fun (c2 : ¬ (lg_cmp (lN (Nat.gcd h0 w0)) 0) ≤ 0) => ?_)
  · skip
    replace c2 : ¬ (0 : Int64) < (lN (Nat.gcd h0 w0)) := lg_le2.mp c2
    refine go_blk (pc2 := 28) (L2 := [.ref 26, .long (lN (Nat.gcd h0 w0)), .null]) (st2 := [.long 0]) (M2 := (A, G, PF)) (hs2 := []) (C := True) [(.lconst 0, 0, 0)] [] (by decide +kernel) rfl trivial ?_
    exact go_retl (by decide +kernel) rfl (ple (by first | rw [if_pos (by assumption)] | rw [if_neg (by assumption)]))
  · skip
    replace c2 : (0 : Int64) < (lN (Nat.gcd h0 w0)) := Classical.byContradiction (fun zz => c2 (lg_le2.mpr zz))
    refine go_blk (pc2 := 24) (L2 := [.ref 26, .long (lN (Nat.gcd h0 w0)), .null]) (st2 := [.long ((G 26 4) / (lN (Nat.gcd h0 w0)))]) (M2 := (A, G, PF)) (hs2 := []) (C := (¬ (lN (Nat.gcd h0 w0)) = 0) ∧ True) [(.aload_n 0, 0, 0), (.getfield 23, 4, 4), (.lload_n 1, 0, 0), (.ldiv, 0, 0)] [] (by decide +kernel) rfl ⟨fun zz => absurd (zz ▸ (by assumption : (0 : Int64) < lN (Nat.gcd h0 w0))) (by decide), trivial⟩ ?_
    refine go_goto (off := 4) 28 (by decide +kernel) (by decide) ?_
    exact go_retl (by decide +kernel) rfl (ple (by first | rw [if_pos (by assumption)] | rw [if_neg (by assumption)]))
