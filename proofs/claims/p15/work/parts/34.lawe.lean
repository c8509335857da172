/-! ===== the greatest values: the law's check ===== -/
theorem lg_lt {x y : Int64} : lg_cmp x y < 0 ↔ x < y := by
  have h := lg_ge2 (x := x) (y := y)
  constructor
  · intro z
    refine Classical.byContradiction fun q => ?_
    exact Int32.not_le.mpr z (h.mpr q)
  · intro z
    exact Int32.not_le.mp fun q => h.mp q z
def PostT : Option Value → Mem → Prop := fun r M2 => r = some (.int 1) ∧ ∃ A2 G2, M2 = (A2, G2, PF)
theorem q_top0 (l : Launch) (A : Nat → Nat → Int32) (G : Nat → Nat → Int64) : Sem l mX5_top [.ref 0, .int 0] 27 (A, G, PF) 27 (pl (G 0 6) (A, G, PF)) := (s_X5_top l A G 0).mono fun v M h => h
theorem q_top1 (l : Launch) (A : Nat → Nat → Int32) (G : Nat → Nat → Int64) : Sem l mX5_top [.ref 0, .int 1] 27 (A, G, PF) 27 (pl (G 0 7) (A, G, PF)) := (s_X5_top l A G 1).mono fun v M h => h
theorem no_l {lf : Nat → Nat} : ∀ i, i < 0 → lf i < 10 := fun i hi => absurd hi (Nat.not_lt_zero i)
theorem Kj0 {B : Nat → Nat → Int32} {dm ncl : Nat} {lf : Nat → Nat} : Kj B dm ncl lf 0 = Cel B dm ncl := by
  funext s p
  exact propext ⟨fun z => z.1, fun z => ⟨z, fun i hi => absurd hi (Nat.not_lt_zero i)⟩⟩
theorem tp_pos {B : Nat → Nat → Int32} {a b c a2 b2 c2 : Int32} {dm ncl cnt : Nat} {x w : Int} (hx : Mx B a b c cnt (Cel B dm ncl) x w) {lf : Nat → Nat} {v : Int32} {up dw : Int64} (hT : Tp B a2 b2 c2 cnt (Kj B dm ncl lf 0) v up dw) : ∃ x2 w2, Mx B a2 b2 c2 cnt (Cel B dm ncl) x2 w2 ∧ up = Int64.ofInt x2 ∧ dw = Int64.ofInt w2 ∧ (v = 1 ∨ v = 2) := by
  rw [Kj0] at hT
  rcases hT with ⟨h1, -⟩ | ⟨x2, w2, h1, h2, h3, h4, -⟩
  · obtain ⟨s, p, n, e1, e2, e3, -⟩ := hx.2.1
    exact absurd e3 (h1 s p e1 n e2)
  · exact ⟨x2, w2, h1, h2, h3, h4⟩
theorem neg_cmp {B : Nat → Nat → Int32} {a b c : Int32} (hf : f9 a ∧ f9 b ∧ f9 c) {cnt : Nat} {K : Nat → Nat → Prop} {x w x2 w2 : Int} (hB : ∀ n, n < cnt → CB (cC B n)) (h : Mx B a b c cnt K x w) (h2 : Mx B (-a) (-b) (-c) cnt K x2 w2) : ¬ 0 < cmpI (-(Int64.ofInt x2)) (Int64.ofInt w2) (Int64.ofInt x) (Int64.ofInt w) := by
  have hle := mx_neg hf hB h h2
  obtain ⟨c1, c2, c3⟩ := h2.1
  rw [← Int64.ofInt_neg, cmp_I h.1 (show Bd (-x2) w2 from ⟨c1, c2, by omega⟩)]
  by_cases q : -x2 * w < x * w2
  · rw [if_pos q]; decide
  · rw [if_neg q, if_neg (by omega)]; decide
theorem o64_m99 : (-99 : Int64) = Int64.ofInt (-99) := by decide
theorem o64_99 : (99 : Int64) = Int64.ofInt 99 := by decide
theorem o64_m98 : (-98 : Int64) = Int64.ofInt (-98) := by decide
theorem o64_100 : (100 : Int64) = Int64.ofInt 100 := by decide
theorem o32m {z : Int} (h : z.natAbs ≤ 2 ^ 30) : (Int64.ofInt z).toInt32 - 1 = Int32.ofInt (z - 1) := by
  rw [o32 h, Int32.ofInt_sub]
  rfl
theorem w_ge1 {x w : Int} (hb : Bd x w) : 0 ≤ lg_cmp (Int64.ofInt w) 1 := by
  obtain ⟨b1, b2, b3⟩ := hb
  refine lg_ge2.mpr fun z => ?_
  have := (o64_lt (x := w) (y := 1) (by omega) (by decide)).mp z
  omega
/-- ceiling -/
def Cei (x w f g : Int) : Prop := (g = f ∧ f * w = x) ∨ (g = f + 1 ∧ ¬ f * w = x)
theorem cei_a {x w f g : Int} (hb : Bd x w) (h : Flo x w f) (hc : Cei x w f g) : x ≤ g * w ∧ ¬ x ≤ (f - 1) * w ∧ (f < g → ¬ x ≤ f * w) := by
  obtain ⟨b1, -, -⟩ := hb
  obtain ⟨h1, h2⟩ := h
  have e1 : (f - 1) * w = f * w - w := by grind
  refine ⟨?_, by omega, fun z => ?_⟩
  · rcases hc with ⟨rfl, q⟩ | ⟨rfl, q⟩
    · omega
    · omega
  · rcases hc with ⟨rfl, q⟩ | ⟨rfl, q⟩
    · omega
    · omega
/-- some world below s -/
def Ab (W Q : Nat → Prop) (s : Nat) : Prop := ∃ s2, s2 < s ∧ W s2 ∧ Q s2
theorem ab_t {W Q : Nat → Prop} {s : Nat} {e : Int32} (he : e = bi (Ab W Q s)) (h1 : W s) (h2 : Q s) : e ||| 1 = bi (Ab W Q (s + 1)) := by
  rw [bi_t (show Ab W Q (s + 1) from ⟨s, by omega, h1, h2⟩), he]
  rcases bi_01 (Ab W Q s) with q | q <;> rw [q] <;> decide
theorem ab_f {W Q : Nat → Prop} {s : Nat} {e : Int32} (he : e = bi (Ab W Q s)) (h2 : ¬ (W s ∧ Q s)) : e = bi (Ab W Q (s + 1)) := by
  rw [he]
  refine bi_c ⟨fun ⟨s2, z1, z2⟩ => ⟨s2, by omega, z2⟩, fun ⟨s2, z1, z2⟩ => ?_⟩
  by_cases q : s2 = s
  · subst q
    exact absurd z2 h2
  · exact ⟨s2, by omega, z2⟩
theorem ab_f0 {W Q : Nat → Prop} {s : Nat} {e : Int32} (he : e = bi (Ab W Q s)) (h2 : ¬ Q s) : e ||| 0 = bi (Ab W Q (s + 1)) := by
  rw [Int32.or_zero]
  exact ab_f he fun z => h2 z.2
theorem ushr_w {W : Nat → Prop} {s : Nat} (hs : s < 32) : (((wI W 32).toUInt32 >>> ((nI s).toUInt32 &&& Int32.toUInt32 31)).toInt32 &&& 1) = 0 ↔ ¬ W s := by
  rw [ushr_tb _ hs, ← tb_w W hs]
  by_cases q : tb (wI W 32) s = true
  · rw [if_pos q]
    exact ⟨fun z => absurd z (by decide), fun z => absurd q z⟩
  · rw [if_neg q]
    exact ⟨fun _ => q, fun _ => rfl⟩
theorem b_none {B : Nat → Nat → Int32} {a b c : Int32} {cnt : Nat} {K : Nat → Nat → Prop} (hno : ∀ s p, K s p → ∀ n, n < cnt → ¬ Fts B s p n) {t : Tr} (h : PkI B a b c cnt K t) (d : Int64) : t.1 ≤ d * t.2.1 := by
  rcases h with ⟨-, rfl⟩ | ⟨m, g1, ⟨s, p, k0, k1⟩, -⟩
  · show (0 : Int64) ≤ d * 0
    rw [Int64.mul_zero]
    exact Int64.le_refl 0
  · exact absurd k1 (hno s p k0 m g1)
set_option maxRecDepth 100000 in
set_option maxHeartbeats 4000000 in
theorem tp_448 (l : Launch) (B A : Nat → Nat → Int32) (G : Nat → Nat → Int64) (mm P dm ncl cnt : Nat) (hM : Mm mm P dm) (hB : Std B dm ncl cnt) (hN : Nrr B) (h3 : ncl ≤ 3) (a b c : Int32) (hf : f9 a ∧ f9 b ∧ f9 c) (hf2 : f9 (-a) ∧ f9 (-b) ∧ f9 (-c)) (x w : Int) (hx : Mx B a b c cnt (Cel B dm ncl) x w)  (hE : Ext B A ncl (fun _ => 0) 0 0) (j1 : Value) (j2 : Value) (j6 : Value) (j11 : Value) (j12 : Value) (j13 : Value) (j14 : Value) (j15 : Value) (j16 : Value) : Go l ro0 mX6_tops 27 (A, G, PF) 448 [.ref 0, j1, j2, .int a, .int b, .int c, j6, .long (Int64.ofInt x), .null, .long (Int64.ofInt w), .null, j11, j12, j13, j14, j15, j16] [] 27 (PostT) := by
  have hCB := hN.cb hB.2.1
  refine go_blk (pc2 := 457) (L2 := [.ref 0, j1, j2, .int a, .int b, .int c, j6, .long (Int64.ofInt x), .null, .long (Int64.ofInt w), .null, j11, j12, j13, j14, j15, j16]) (st2 := [.int (-c), .int (-b), .int (-a), .ref 0]) (M2 := (A, G, PF)) (hs2 := []) (C := True) [(.aload_n 0, 0, 0), (.iload_n 3, 0, 0), (.ineg, 0, 0), (.iload 4, 0, 0), (.ineg, 0, 0), (.iload 5, 0, 0), (.ineg, 0, 0)] [] (by decide +kernel) rfl trivial ?_
  refine go_call (Y2 := mX5_most) (n2 := 27) (st := []) [.ref 0] [.int (-a), .int (-b), .int (-c)] ck_6_52 cwX5_most rfl (by decide +kernel) rfl (fun h => absurd h (by decide)) (fun _ => ⟨0, rfl, by decide, rfl⟩) (Nat.le_of_ble_eq_true rfl) (Or.inl rfl) (fun _ _ _ h => h) (q_most l G hB hN hE no_l (by omega) hf2) (fun v M2 hp1 => ?_)
  obtain ⟨A3, G3, v, rfl, rfl, hE3, hT⟩ := hp1
  obtain ⟨x2, w2, h2, e6, e7, hv⟩ := tp_pos hx hT
  show Go l ro0 mX6_tops 27 (A3, G3, PF) 460 [.ref 0, j1, j2, .int a, .int b, .int c, j6, .long (Int64.ofInt x), .null, .long (Int64.ofInt w), .null, j11, j12, j13, j14, j15, j16] [.int v] 27 _
  refine go_ifz (cnd := .le) (off := 28) 488 (by decide +kernel) (by decide) (fun (h : v ≤ 0) => absurd h (by rcases hv with q | q <;> rw [q] <;> decide)) (fun _ => ?_)
  refine go_blk (pc2 := 465) (L2 := [.ref 0, j1, j2, .int a, .int b, .int c, j6, .long (Int64.ofInt x), .null, .long (Int64.ofInt w), .null, j11, j12, j13, j14, j15, j16]) (st2 := [.int 0, .ref 0]) (M2 := (A3, G3, PF)) (hs2 := []) (C := True) [(.aload_n 0, 0, 0), (.iconst 0, 0, 0)] [] (by decide +kernel) rfl trivial ?_
  refine go_call (Y2 := mX5_top) (n2 := 27) (st := []) [.ref 0] [.int 0] ck_6_55 cwX5_top rfl (by decide +kernel) rfl (fun h => absurd h (by decide)) (fun _ => ⟨0, rfl, by decide, rfl⟩) (Nat.le_of_ble_eq_true rfl) (Or.inl rfl) (fun _ _ _ h => h) (q_top0 l A3 G3) (fun v M2 hp2 => ?_)
  obtain ⟨rfl, rfl⟩ := hp2
  rw [e6]
  show Go l ro0 mX6_tops 27 (A3, G3, PF) 468 [.ref 0, j1, j2, .int a, .int b, .int c, j6, .long (Int64.ofInt x), .null, .long (Int64.ofInt w), .null, j11, j12, j13, j14, j15, j16] [.long (Int64.ofInt x2)] 27 _
  refine go_blk (pc2 := 471) (L2 := [.ref 0, j1, j2, .int a, .int b, .int c, j6, .long (Int64.ofInt x), .null, .long (Int64.ofInt w), .null, j11, j12, j13, j14, j15, j16]) (st2 := [.int 1, .ref 0, .long (-(Int64.ofInt x2))]) (M2 := (A3, G3, PF)) (hs2 := []) (C := True) [(.lneg, 0, 0), (.aload_n 0, 0, 0), (.iconst 1, 0, 0)] [] (by decide +kernel) rfl trivial ?_
  refine go_call (Y2 := mX5_top) (n2 := 27) (st := [.long (-(Int64.ofInt x2))]) [.ref 0] [.int 1] ck_6_55 cwX5_top rfl (by decide +kernel) rfl (fun h => absurd h (by decide)) (fun _ => ⟨0, rfl, by decide, rfl⟩) (Nat.le_of_ble_eq_true rfl) (Or.inl rfl) (fun _ _ _ h => h) (q_top1 l A3 G3) (fun v M2 hp3 => ?_)
  obtain ⟨rfl, rfl⟩ := hp3
  rw [e7]
  show Go l ro0 mX6_tops 27 (A3, G3, PF) 474 [.ref 0, j1, j2, .int a, .int b, .int c, j6, .long (Int64.ofInt x), .null, .long (Int64.ofInt w), .null, j11, j12, j13, j14, j15, j16] [.long (Int64.ofInt w2), .long (-(Int64.ofInt x2))] 27 _
  refine go_blk (pc2 := 478) (L2 := [.ref 0, j1, j2, .int a, .int b, .int c, j6, .long (Int64.ofInt x), .null, .long (Int64.ofInt w), .null, j11, j12, j13, j14, j15, j16]) (st2 := [.long (Int64.ofInt w), .long (Int64.ofInt x), .long (Int64.ofInt w2), .long (-(Int64.ofInt x2))]) (M2 := (A3, G3, PF)) (hs2 := []) (C := True) [(.lload 7, 0, 0), (.lload 9, 0, 0)] [] (by decide +kernel) rfl trivial ?_
  refine go_call (Y2 := mX6_compare) (n2 := 27) (st := []) [] [.long (-(Int64.ofInt x2)), .long (Int64.ofInt w2), .long (Int64.ofInt x), .long (Int64.ofInt w)] ck_6_63 cwX6_compare rfl (by decide +kernel) rfl (fun _ => rfl) (fun h => absurd rfl h) (Nat.le_of_ble_eq_true rfl) (Or.inl rfl) (fun _ _ _ h => h) (s_X6_compare l A3 G3 (-(Int64.ofInt x2)) (Int64.ofInt w2) (Int64.ofInt x) (Int64.ofInt w)) (fun v M2 hp4 => ?_)
  obtain ⟨rfl, rfl⟩ := hp4
  show Go l ro0 mX6_tops 27 (A3, G3, PF) 481 [.ref 0, j1, j2, .int a, .int b, .int c, j6, .long (Int64.ofInt x), .null, .long (Int64.ofInt w), .null, j11, j12, j13, j14, j15, j16] [.int (cmpI (-(Int64.ofInt x2)) (Int64.ofInt w2) (Int64.ofInt x) (Int64.ofInt w))] 27 _
  refine go_ifz (cnd := .gt) (off := 7) 488 (by decide +kernel) (by decide) (fun (h : 0 < (cmpI (-(Int64.ofInt x2)) (Int64.ofInt w2) (Int64.ofInt x) (Int64.ofInt w))) => absurd h (neg_cmp hf hCB hx h2)) (fun _ => ?_)
  refine go_blk (pc2 := 485) (L2 := [.ref 0, j1, j2, .int a, .int b, .int c, j6, .long (Int64.ofInt x), .null, .long (Int64.ofInt w), .null, j11, j12, j13, j14, j15, j16]) (st2 := [.int 1]) (M2 := (A3, G3, PF)) (hs2 := []) (C := True) [(.iconst 1, 0, 0)] [] (by decide +kernel) rfl trivial ?_
  refine go_goto (off := 4) 489 (by decide +kernel) (by decide) ?_
  exact go_retz (by decide +kernel) rfl (Or.inr rfl) (⟨rfl, _, _, rfl⟩)
set_option maxRecDepth 100000 in
set_option maxHeartbeats 4000000 in
theorem tp_405 (l : Launch) (B A : Nat → Nat → Int32) (G : Nat → Nat → Int64) (mm P dm ncl cnt : Nat) (hM : Mm mm P dm) (hB : Std B dm ncl cnt) (hN : Nrr B) (h3 : ncl ≤ 3) (a b c : Int32) (hf : f9 a ∧ f9 b ∧ f9 c) (hf2 : f9 (-a) ∧ f9 (-b) ∧ f9 (-c)) (x w : Int) (hx : Mx B a b c cnt (Cel B dm ncl) x w) (f g : Int) (hfl : Flo x w f) (hce : Cei x w f g) (hE : Ext B A ncl (fun _ => 0) 0 0) (j1 : Value) (j2 : Value) (j6 : Value) (j11 : Value) (j12 : Value) : Go l ro0 mX6_tops 27 (A, G, PF) 405 [.ref 0, j1, j2, .int a, .int b, .int c, j6, .long (Int64.ofInt x), .null, .long (Int64.ofInt w), .null, j11, j12, .long (Int64.ofInt f), .null, .long (Int64.ofInt g), .null] [] 27 (PostT) := by
  have hCB := hN.cb hB.2.1
  have hfb := flo_b hx.1 hfl
  have hgb : g.natAbs ≤ 2361962 := by rcases hce with ⟨rfl, -⟩ | ⟨rfl, -⟩ <;> omega
  obtain ⟨c1z, c2z, c3z⟩ := cei_a hx.1 hfl hce
  refine go_blk (pc2 := 411) (L2 := [.ref 0, j1, j2, .int a, .int b, .int c, j6, .long (Int64.ofInt x), .null, .long (Int64.ofInt w), .null, j11, j12, .long (Int64.ofInt f), .null, .long (Int64.ofInt g), .null]) (st2 := [.int (lg_cmp (Int64.ofInt f) (-99))]) (M2 := (A, G, PF)) (hs2 := []) (C := True) [(.lload 13, 0, 0), (.ldc2_w 70, 0, 0), (.lcmp, 0, 0)] [] (by decide +kernel) rfl trivial ?_
  refine go_ifz (cnd := .lt) (off := 37) 448 (by decide +kernel) (by decide) (fun (c1 : (lg_cmp (Int64.ofInt f) (-99)) < 0) => ?_) (fun (c1 : ¬ (lg_cmp (Int64.ofInt f) (-99)) < 0) => ?_)
  · skip
    replace c1 : (((Int64.ofInt f) : Int64) < (-99)) := lg_lt.mp c1
    rw [o64_m99, o64_lt (by omega) (by omega)] at c1
    exact tp_448 l B A G mm P dm ncl cnt hM hB hN h3 a b c hf hf2 x w hx hE (j1) (j2) (j6) (j11) (j12) (.long (Int64.ofInt f)) (.null) (.long (Int64.ofInt g)) (.null)
  · skip
    replace c1 : ¬ (((Int64.ofInt f) : Int64) < (-99)) := fun zz => c1 (lg_lt.mpr zz)
    rw [o64_m99, o64_lt (by omega) (by omega)] at c1
    refine go_blk (pc2 := 420) (L2 := [.ref 0, j1, j2, .int a, .int b, .int c, j6, .long (Int64.ofInt x), .null, .long (Int64.ofInt w), .null, j11, j12, .long (Int64.ofInt f), .null, .long (Int64.ofInt g), .null]) (st2 := [.int (lg_cmp (Int64.ofInt f) 99)]) (M2 := (A, G, PF)) (hs2 := []) (C := True) [(.lload 13, 0, 0), (.ldc2_w 72, 1, 0), (.lcmp, 0, 0)] [] (by decide +kernel) rfl trivial ?_
    refine go_ifz (cnd := .gt) (off := 28) 448 (by decide +kernel) (by decide) (fun (c2 : 0 < (lg_cmp (Int64.ofInt f) 99)) => ?_) (fun (c2 : ¬ 0 < (lg_cmp (Int64.ofInt f) 99)) => ?_)
    · skip
      replace c2 : ((99 : Int64) < (Int64.ofInt f)) := lg_gt.mp c2
      rw [o64_99, o64_lt (by omega) (by omega)] at c2
      exact tp_448 l B A G mm P dm ncl cnt hM hB hN h3 a b c hf hf2 x w hx hE (j1) (j2) (j6) (j11) (j12) (.long (Int64.ofInt f)) (.null) (.long (Int64.ofInt g)) (.null)
    · skip
      replace c2 : ¬ ((99 : Int64) < (Int64.ofInt f)) := fun zz => c2 (lg_gt.mpr zz)
      rw [o64_99, o64_lt (by omega) (by omega)] at c2
      refine go_blk (pc2 := 428) (L2 := [.ref 0, j1, j2, .int a, .int b, .int c, j6, .long (Int64.ofInt x), .null, .long (Int64.ofInt w), .null, j11, j12, .long (Int64.ofInt f), .null, .long (Int64.ofInt g), .null]) (st2 := [.int (lg_cmp (Int64.ofInt g) (Int64.ofInt f))]) (M2 := (A, G, PF)) (hs2 := []) (C := True) [(.lload 15, 0, 0), (.lload 13, 0, 0), (.lcmp, 0, 0)] [] (by decide +kernel) rfl trivial ?_
      refine go_ifz (cnd := .le) (off := 20) 448 (by decide +kernel) (by decide) (fun (c3 : (lg_cmp (Int64.ofInt g) (Int64.ofInt f)) ≤ 0) => ?_) (fun (c3 : ¬ (lg_cmp (Int64.ofInt g) (Int64.ofInt f)) ≤ 0) => ?_)
      · skip
        replace c3 : ¬ ((Int64.ofInt f) : Int64) < (Int64.ofInt g) := lg_le2.mp c3
        rw [o64_lt (by omega) (by omega)] at c3
        exact tp_448 l B A G mm P dm ncl cnt hM hB hN h3 a b c hf hf2 x w hx hE (j1) (j2) (j6) (j11) (j12) (.long (Int64.ofInt f)) (.null) (.long (Int64.ofInt g)) (.null)
      · skip
        replace c3 : ((Int64.ofInt f) : Int64) < (Int64.ofInt g) := Classical.byContradiction (fun zz => c3 (lg_le2.mpr zz))
        rw [o64_lt (by omega) (by omega)] at c3
        refine go_blk (pc2 := 440) (L2 := [.ref 0, j1, j2, .int a, .int b, .int c, j6, .long (Int64.ofInt x), .null, .long (Int64.ofInt w), .null, j11, j12, .long (Int64.ofInt f), .null, .long (Int64.ofInt g), .null]) (st2 := [.int (((Int64.ofInt f)).toInt32), .int c, .int b, .int a, .ref 0]) (M2 := (A, G, PF)) (hs2 := []) (C := True) [(.aload_n 0, 0, 0), (.iload_n 3, 0, 0), (.iload 4, 0, 0), (.iload 5, 0, 0), (.lload 13, 0, 0), (.l2i, 0, 0)] [] (by decide +kernel) rfl trivial ?_
        refine go_call (Y2 := mX5_bounded) (n2 := 27) (st := []) [.ref 0] [.int a, .int b, .int c, .int (((Int64.ofInt f)).toInt32)] ck_6_59 cwX5_bounded rfl (by decide +kernel) rfl (fun h => absurd h (by decide)) (fun _ => ⟨0, rfl, by decide, rfl⟩) (Nat.le_of_ble_eq_true rfl) (Or.inl rfl) (fun _ _ _ h => h) (by rw [o32 (by omega)]; exact q_bnd l G hB hN hE no_l (by omega) hf (o32_f99 ⟨by omega, by omega⟩)) (fun v M2 hp4 => ?_)
        obtain ⟨A3, G3, t, rfl, hE3, hT, rfl⟩ := hp4
        rw [o3264 (by omega)]
        rw [bi_c (mx_z hf hCB hx (by rw [← Kj0 (lf := fun _ => 0)]; exact hT) (z := f) (by omega))]
        show Go l ro0 mX6_tops 27 (A3, G3, PF) 443 [.ref 0, j1, j2, .int a, .int b, .int c, j6, .long (Int64.ofInt x), .null, .long (Int64.ofInt w), .null, j11, j12, .long (Int64.ofInt f), .null, .long (Int64.ofInt g), .null] [.int (bi (x ≤ f * w))] 27 _
        refine go_ifz (cnd := .eq) (off := 5) 448 (by decide +kernel) (by decide) (fun _ => ?_) (fun (h : ¬ (bi (x ≤ f * w)) = 0) => absurd h (fun zz => zz (bi_f (c3z (by omega)))))
        exact tp_448 l B A3 G3 mm P dm ncl cnt hM hB hN h3 a b c hf hf2 x w hx hE3 (j1) (j2) (j6) (j11) (j12) (.long (Int64.ofInt f)) (.null) (.long (Int64.ofInt g)) (.null)
set_option maxRecDepth 100000 in
set_option maxHeartbeats 4000000 in
theorem tp_370 (l : Launch) (B A : Nat → Nat → Int32) (G : Nat → Nat → Int64) (mm P dm ncl cnt : Nat) (hM : Mm mm P dm) (hB : Std B dm ncl cnt) (hN : Nrr B) (h3 : ncl ≤ 3) (a b c : Int32) (hf : f9 a ∧ f9 b ∧ f9 c) (hf2 : f9 (-a) ∧ f9 (-b) ∧ f9 (-c)) (x w : Int) (hx : Mx B a b c cnt (Cel B dm ncl) x w) (f g : Int) (hfl : Flo x w f) (hce : Cei x w f g) (hE : Ext B A ncl (fun _ => 0) 0 0) (j1 : Value) (j2 : Value) (j6 : Value) (j11 : Value) (j12 : Value) : Go l ro0 mX6_tops 27 (A, G, PF) 370 [.ref 0, j1, j2, .int a, .int b, .int c, j6, .long (Int64.ofInt x), .null, .long (Int64.ofInt w), .null, j11, j12, .long (Int64.ofInt f), .null, .long (Int64.ofInt g), .null] [] 27 (PostT) := by
  have hCB := hN.cb hB.2.1
  have hfb := flo_b hx.1 hfl
  have hgb : g.natAbs ≤ 2361962 := by rcases hce with ⟨rfl, -⟩ | ⟨rfl, -⟩ <;> omega
  obtain ⟨c1z, c2z, c3z⟩ := cei_a hx.1 hfl hce
  refine go_blk (pc2 := 376) (L2 := [.ref 0, j1, j2, .int a, .int b, .int c, j6, .long (Int64.ofInt x), .null, .long (Int64.ofInt w), .null, j11, j12, .long (Int64.ofInt f), .null, .long (Int64.ofInt g), .null]) (st2 := [.int (lg_cmp (Int64.ofInt f) (-98))]) (M2 := (A, G, PF)) (hs2 := []) (C := True) [(.lload 13, 0, 0), (.ldc2_w 74, 2, 0), (.lcmp, 0, 0)] [] (by decide +kernel) rfl trivial ?_
  refine go_ifz (cnd := .lt) (off := 29) 405 (by decide +kernel) (by decide) (fun (c1 : (lg_cmp (Int64.ofInt f) (-98)) < 0) => ?_) (fun (c1 : ¬ (lg_cmp (Int64.ofInt f) (-98)) < 0) => ?_)
  · skip
    replace c1 : (((Int64.ofInt f) : Int64) < (-98)) := lg_lt.mp c1
    rw [o64_m98, o64_lt (by omega) (by omega)] at c1
    exact tp_405 l B A G mm P dm ncl cnt hM hB hN h3 a b c hf hf2 x w hx f g hfl hce hE (j1) (j2) (j6) (j11) (j12)
  · skip
    replace c1 : ¬ (((Int64.ofInt f) : Int64) < (-98)) := fun zz => c1 (lg_lt.mpr zz)
    rw [o64_m98, o64_lt (by omega) (by omega)] at c1
    refine go_blk (pc2 := 385) (L2 := [.ref 0, j1, j2, .int a, .int b, .int c, j6, .long (Int64.ofInt x), .null, .long (Int64.ofInt w), .null, j11, j12, .long (Int64.ofInt f), .null, .long (Int64.ofInt g), .null]) (st2 := [.int (lg_cmp (Int64.ofInt f) 100)]) (M2 := (A, G, PF)) (hs2 := []) (C := True) [(.lload 13, 0, 0), (.ldc2_w 76, 3, 0), (.lcmp, 0, 0)] [] (by decide +kernel) rfl trivial ?_
    refine go_ifz (cnd := .gt) (off := 20) 405 (by decide +kernel) (by decide) (fun (c2 : 0 < (lg_cmp (Int64.ofInt f) 100)) => ?_) (fun (c2 : ¬ 0 < (lg_cmp (Int64.ofInt f) 100)) => ?_)
    · skip
      replace c2 : ((100 : Int64) < (Int64.ofInt f)) := lg_gt.mp c2
      rw [o64_100, o64_lt (by omega) (by omega)] at c2
      exact tp_405 l B A G mm P dm ncl cnt hM hB hN h3 a b c hf hf2 x w hx f g hfl hce hE (j1) (j2) (j6) (j11) (j12)
    · skip
      replace c2 : ¬ ((100 : Int64) < (Int64.ofInt f)) := fun zz => c2 (lg_gt.mpr zz)
      rw [o64_100, o64_lt (by omega) (by omega)] at c2
      refine go_blk (pc2 := 399) (L2 := [.ref 0, j1, j2, .int a, .int b, .int c, j6, .long (Int64.ofInt x), .null, .long (Int64.ofInt w), .null, j11, j12, .long (Int64.ofInt f), .null, .long (Int64.ofInt g), .null]) (st2 := [.int ((((Int64.ofInt f)).toInt32) - 1), .int c, .int b, .int a, .ref 0]) (M2 := (A, G, PF)) (hs2 := []) (C := True) [(.aload_n 0, 0, 0), (.iload_n 3, 0, 0), (.iload 4, 0, 0), (.iload 5, 0, 0), (.lload 13, 0, 0), (.l2i, 0, 0), (.iconst 1, 0, 0), (.isub, 0, 0)] [] (by decide +kernel) rfl trivial ?_
      refine go_call (Y2 := mX5_bounded) (n2 := 27) (st := []) [.ref 0] [.int a, .int b, .int c, .int ((((Int64.ofInt f)).toInt32) - 1)] ck_6_59 cwX5_bounded rfl (by decide +kernel) rfl (fun h => absurd h (by decide)) (fun _ => ⟨0, rfl, by decide, rfl⟩) (Nat.le_of_ble_eq_true rfl) (Or.inl rfl) (fun _ _ _ h => h) (by rw [o32m (by omega)]; exact q_bnd l G hB hN hE no_l (by omega) hf (o32_f99 ⟨by omega, by omega⟩)) (fun v M2 hp3 => ?_)
      obtain ⟨A3, G3, t, rfl, hE3, hT, rfl⟩ := hp3
      rw [o3264 (by omega)]
      rw [bi_c (mx_z hf hCB hx (by rw [← Kj0 (lf := fun _ => 0)]; exact hT) (z := (f - 1)) (by omega))]
      show Go l ro0 mX6_tops 27 (A3, G3, PF) 402 [.ref 0, j1, j2, .int a, .int b, .int c, j6, .long (Int64.ofInt x), .null, .long (Int64.ofInt w), .null, j11, j12, .long (Int64.ofInt f), .null, .long (Int64.ofInt g), .null] [.int (bi (x ≤ (f - 1) * w))] 27 _
      refine go_ifz (cnd := .ne) (off := 44) 446 (by decide +kernel) (by decide) (fun (h : ¬ (bi (x ≤ (f - 1) * w)) = 0) => absurd h (fun zz => zz (bi_f c2z))) (fun _ => ?_)
      exact tp_405 l B A3 G3 mm P dm ncl cnt hM hB hN h3 a b c hf hf2 x w hx f g hfl hce hE3 (j1) (j2) (j6) (j11) (j12)
set_option maxRecDepth 100000 in
set_option maxHeartbeats 4000000 in
theorem tp_335 (l : Launch) (B A : Nat → Nat → Int32) (G : Nat → Nat → Int64) (mm P dm ncl cnt : Nat) (hM : Mm mm P dm) (hB : Std B dm ncl cnt) (hN : Nrr B) (h3 : ncl ≤ 3) (a b c : Int32) (hf : f9 a ∧ f9 b ∧ f9 c) (hf2 : f9 (-a) ∧ f9 (-b) ∧ f9 (-c)) (x w : Int) (hx : Mx B a b c cnt (Cel B dm ncl) x w) (f g : Int) (hfl : Flo x w f) (hce : Cei x w f g) (hE : Ext B A ncl (fun _ => 0) 0 0) (j1 : Value) (j2 : Value) (j6 : Value) (j11 : Value) (j12 : Value) : Go l ro0 mX6_tops 27 (A, G, PF) 335 [.ref 0, j1, j2, .int a, .int b, .int c, j6, .long (Int64.ofInt x), .null, .long (Int64.ofInt w), .null, j11, j12, .long (Int64.ofInt f), .null, .long (Int64.ofInt g), .null] [] 27 (PostT) := by
  have hCB := hN.cb hB.2.1
  have hfb := flo_b hx.1 hfl
  have hgb : g.natAbs ≤ 2361962 := by rcases hce with ⟨rfl, -⟩ | ⟨rfl, -⟩ <;> omega
  obtain ⟨c1z, c2z, c3z⟩ := cei_a hx.1 hfl hce
  refine go_blk (pc2 := 341) (L2 := [.ref 0, j1, j2, .int a, .int b, .int c, j6, .long (Int64.ofInt x), .null, .long (Int64.ofInt w), .null, j11, j12, .long (Int64.ofInt f), .null, .long (Int64.ofInt g), .null]) (st2 := [.int (lg_cmp (Int64.ofInt g) (-99))]) (M2 := (A, G, PF)) (hs2 := []) (C := True) [(.lload 15, 0, 0), (.ldc2_w 70, 0, 0), (.lcmp, 0, 0)] [] (by decide +kernel) rfl trivial ?_
  refine go_ifz (cnd := .lt) (off := 29) 370 (by decide +kernel) (by decide) (fun (c1 : (lg_cmp (Int64.ofInt g) (-99)) < 0) => ?_) (fun (c1 : ¬ (lg_cmp (Int64.ofInt g) (-99)) < 0) => ?_)
  · skip
    replace c1 : (((Int64.ofInt g) : Int64) < (-99)) := lg_lt.mp c1
    rw [o64_m99, o64_lt (by omega) (by omega)] at c1
    exact tp_370 l B A G mm P dm ncl cnt hM hB hN h3 a b c hf hf2 x w hx f g hfl hce hE (j1) (j2) (j6) (j11) (j12)
  · skip
    replace c1 : ¬ (((Int64.ofInt g) : Int64) < (-99)) := fun zz => c1 (lg_lt.mpr zz)
    rw [o64_m99, o64_lt (by omega) (by omega)] at c1
    refine go_blk (pc2 := 350) (L2 := [.ref 0, j1, j2, .int a, .int b, .int c, j6, .long (Int64.ofInt x), .null, .long (Int64.ofInt w), .null, j11, j12, .long (Int64.ofInt f), .null, .long (Int64.ofInt g), .null]) (st2 := [.int (lg_cmp (Int64.ofInt g) 99)]) (M2 := (A, G, PF)) (hs2 := []) (C := True) [(.lload 15, 0, 0), (.ldc2_w 72, 1, 0), (.lcmp, 0, 0)] [] (by decide +kernel) rfl trivial ?_
    refine go_ifz (cnd := .gt) (off := 20) 370 (by decide +kernel) (by decide) (fun (c2 : 0 < (lg_cmp (Int64.ofInt g) 99)) => ?_) (fun (c2 : ¬ 0 < (lg_cmp (Int64.ofInt g) 99)) => ?_)
    · skip
      replace c2 : ((99 : Int64) < (Int64.ofInt g)) := lg_gt.mp c2
      rw [o64_99, o64_lt (by omega) (by omega)] at c2
      exact tp_370 l B A G mm P dm ncl cnt hM hB hN h3 a b c hf hf2 x w hx f g hfl hce hE (j1) (j2) (j6) (j11) (j12)
    · skip
      replace c2 : ¬ ((99 : Int64) < (Int64.ofInt g)) := fun zz => c2 (lg_gt.mpr zz)
      rw [o64_99, o64_lt (by omega) (by omega)] at c2
      refine go_blk (pc2 := 362) (L2 := [.ref 0, j1, j2, .int a, .int b, .int c, j6, .long (Int64.ofInt x), .null, .long (Int64.ofInt w), .null, j11, j12, .long (Int64.ofInt f), .null, .long (Int64.ofInt g), .null]) (st2 := [.int (((Int64.ofInt g)).toInt32), .int c, .int b, .int a, .ref 0]) (M2 := (A, G, PF)) (hs2 := []) (C := True) [(.aload_n 0, 0, 0), (.iload_n 3, 0, 0), (.iload 4, 0, 0), (.iload 5, 0, 0), (.lload 15, 0, 0), (.l2i, 0, 0)] [] (by decide +kernel) rfl trivial ?_
      refine go_call (Y2 := mX5_bounded) (n2 := 27) (st := []) [.ref 0] [.int a, .int b, .int c, .int (((Int64.ofInt g)).toInt32)] ck_6_59 cwX5_bounded rfl (by decide +kernel) rfl (fun h => absurd h (by decide)) (fun _ => ⟨0, rfl, by decide, rfl⟩) (Nat.le_of_ble_eq_true rfl) (Or.inl rfl) (fun _ _ _ h => h) (by rw [o32 (by omega)]; exact q_bnd l G hB hN hE no_l (by omega) hf (o32_f99 ⟨by omega, by omega⟩)) (fun v M2 hp3 => ?_)
      obtain ⟨A3, G3, t, rfl, hE3, hT, rfl⟩ := hp3
      rw [o3264 (by omega)]
      rw [bi_c (mx_z hf hCB hx (by rw [← Kj0 (lf := fun _ => 0)]; exact hT) (z := g) (by omega))]
      show Go l ro0 mX6_tops 27 (A3, G3, PF) 365 [.ref 0, j1, j2, .int a, .int b, .int c, j6, .long (Int64.ofInt x), .null, .long (Int64.ofInt w), .null, j11, j12, .long (Int64.ofInt f), .null, .long (Int64.ofInt g), .null] [.int (bi (x ≤ g * w))] 27 _
      refine go_ifz (cnd := .ne) (off := 5) 370 (by decide +kernel) (by decide) (fun _ => ?_) (fun (h : (bi (x ≤ g * w)) = 0) => absurd h (bi_n.mpr c1z))
      exact tp_370 l B A3 G3 mm P dm ncl cnt hM hB hN h3 a b c hf hf2 x w hx f g hfl hce hE3 (j1) (j2) (j6) (j11) (j12)
set_option maxRecDepth 100000 in
set_option maxHeartbeats 4000000 in
theorem tp_313 (l : Launch) (B A : Nat → Nat → Int32) (G : Nat → Nat → Int64) (mm P dm ncl cnt : Nat) (hM : Mm mm P dm) (hB : Std B dm ncl cnt) (hN : Nrr B) (h3 : ncl ≤ 3) (a b c : Int32) (hf : f9 a ∧ f9 b ∧ f9 c) (hf2 : f9 (-a) ∧ f9 (-b) ∧ f9 (-c)) (x w : Int) (hx : Mx B a b c cnt (Cel B dm ncl) x w) (f : Int) (hfl : Flo x w f) (hE : Ext B A ncl (fun _ => 0) 0 0) (j1 : Value) (j2 : Value) (j6 : Value) (j11 : Value) (j12 : Value) (j15 : Value) (j16 : Value) : Go l ro0 mX6_tops 27 (A, G, PF) 313 [.ref 0, j1, j2, .int a, .int b, .int c, j6, .long (Int64.ofInt x), .null, .long (Int64.ofInt w), .null, j11, j12, .long (Int64.ofInt f), .null, j15, j16] [] 27 (PostT) := by
  refine go_blk (pc2 := 321) (L2 := [.ref 0, j1, j2, .int a, .int b, .int c, j6, .long (Int64.ofInt x), .null, .long (Int64.ofInt w), .null, j11, j12, .long (Int64.ofInt f), .null, j15, j16]) (st2 := [.int (lg_cmp ((Int64.ofInt f) * (Int64.ofInt w)) (Int64.ofInt x))]) (M2 := (A, G, PF)) (hs2 := []) (C := True) [(.lload 13, 0, 0), (.lload 9, 0, 0), (.lmul, 0, 0), (.lload 7, 0, 0), (.lcmp, 0, 0)] [] (by decide +kernel) rfl trivial ?_
  refine go_ifz (cnd := .ne) (off := 8) 329 (by decide +kernel) (by decide) (fun (c1 : ¬ (lg_cmp ((Int64.ofInt f) * (Int64.ofInt w)) (Int64.ofInt x)) = 0) => ?_) (fun (c1 : (lg_cmp ((Int64.ofInt f) * (Int64.ofInt w)) (Int64.ofInt x)) = 0) => ?_)
  · skip
    replace c1 : ¬ ((((Int64.ofInt f) * (Int64.ofInt w)) : Int64) = (Int64.ofInt x)) := fun zz => c1 (lg_eq.mpr zz)
    rw [flo_c hx.1 hfl] at c1
    refine go_blk (pc2 := 335) (L2 := [.ref 0, j1, j2, .int a, .int b, .int c, j6, .long (Int64.ofInt x), .null, .long (Int64.ofInt w), .null, j11, j12, .long (Int64.ofInt f), .null, .long ((Int64.ofInt f) + 1), .null]) (st2 := []) (M2 := (A, G, PF)) (hs2 := []) (C := True) [(.lload 13, 0, 0), (.lconst 1, 0, 0), (.ladd, 0, 0), (.lstore 15, 0, 0)] [] (by decide +kernel) rfl trivial ?_
    exact go_as (tp_335 l B A G mm P dm ncl cnt hM hB hN h3 a b c hf hf2 x w hx f (f + 1) hfl (Or.inr ⟨rfl, by assumption⟩) hE (j1) (j2) (j6) (j11) (j12)) rfl (by rw [Int64.ofInt_add]; rfl) rfl
  · skip
    replace c1 : ((((Int64.ofInt f) * (Int64.ofInt w)) : Int64) = (Int64.ofInt x)) := lg_eq.mp c1
    rw [flo_c hx.1 hfl] at c1
    refine go_blk (pc2 := 326) (L2 := [.ref 0, j1, j2, .int a, .int b, .int c, j6, .long (Int64.ofInt x), .null, .long (Int64.ofInt w), .null, j11, j12, .long (Int64.ofInt f), .null, j15, j16]) (st2 := [.long (Int64.ofInt f)]) (M2 := (A, G, PF)) (hs2 := []) (C := True) [(.lload 13, 0, 0)] [] (by decide +kernel) rfl trivial ?_
    refine go_goto (off := 7) 333 (by decide +kernel) (by decide) ?_
    refine go_blk (pc2 := 335) (L2 := [.ref 0, j1, j2, .int a, .int b, .int c, j6, .long (Int64.ofInt x), .null, .long (Int64.ofInt w), .null, j11, j12, .long (Int64.ofInt f), .null, .long (Int64.ofInt f), .null]) (st2 := []) (M2 := (A, G, PF)) (hs2 := []) (C := True) [(.lstore 15, 0, 0)] [] (by decide +kernel) rfl trivial ?_
    exact tp_335 l B A G mm P dm ncl cnt hM hB hN h3 a b c hf hf2 x w hx f f hfl (Or.inl ⟨rfl, by assumption⟩) hE (j1) (j2) (j6) (j11) (j12)
theorem wnz {x w : Int} (hb : Bd x w) : ¬ Int64.ofInt w = 0 := by
  obtain ⟨b1, b2, -⟩ := hb
  intro z
  have := (o64_eq (x := w) (y := 0) (by omega) (by decide)).mp z
  omega
set_option maxRecDepth 100000 in
set_option maxHeartbeats 4000000 in
theorem tp_284 (l : Launch) (B A : Nat → Nat → Int32) (G : Nat → Nat → Int64) (mm P dm ncl cnt : Nat) (hM : Mm mm P dm) (hB : Std B dm ncl cnt) (hN : Nrr B) (h3 : ncl ≤ 3) (a b c : Int32) (hf : f9 a ∧ f9 b ∧ f9 c) (hf2 : f9 (-a) ∧ f9 (-b) ∧ f9 (-c)) (x w : Int) (hx : Mx B a b c cnt (Cel B dm ncl) x w) (hE : Ext B A ncl (fun _ => 0) 0 0) (j1 : Value) (j2 : Value) (j6 : Value) (j11 : Value) (j12 : Value) (j13 : Value) (j14 : Value) (j15 : Value) (j16 : Value) : Go l ro0 mX6_tops 27 (A, G, PF) 284 [.ref 0, j1, j2, .int a, .int b, .int c, j6, .long (Int64.ofInt x), .null, .long (Int64.ofInt w), .null, j11, j12, j13, j14, j15, j16] [] 27 (PostT) := by
  refine go_blk (pc2 := 288) (L2 := [.ref 0, j1, j2, .int a, .int b, .int c, j6, .long (Int64.ofInt x), .null, .long (Int64.ofInt w), .null, j11, j12, j13, j14, j15, j16]) (st2 := [.int (lg_cmp (Int64.ofInt x) 0)]) (M2 := (A, G, PF)) (hs2 := []) (C := True) [(.lload 7, 0, 0), (.lconst 0, 0, 0), (.lcmp, 0, 0)] [] (by decide +kernel) rfl trivial ?_
  refine go_ifz (cnd := .lt) (off := 11) 299 (by decide +kernel) (by decide) (fun (c1 : (lg_cmp (Int64.ofInt x) 0) < 0) => ?_) (fun (c1 : ¬ (lg_cmp (Int64.ofInt x) 0) < 0) => ?_)
  · skip
    replace c1 : (((Int64.ofInt x) : Int64) < 0) := lg_lt.mp c1
    refine go_blk (pc2 := 313) (L2 := [.ref 0, j1, j2, .int a, .int b, .int c, j6, .long (Int64.ofInt x), .null, .long (Int64.ofInt w), .null, j11, j12, .long (-((((-(Int64.ofInt x)) + (Int64.ofInt w)) - 1) / (Int64.ofInt w))), .null, j15, j16]) (st2 := []) (M2 := (A, G, PF)) (hs2 := []) (C := (¬ (Int64.ofInt w) = 0) ∧ True) [(.lload 7, 0, 0), (.lneg, 0, 0), (.lload 9, 0, 0), (.ladd, 0, 0), (.lconst 1, 0, 0), (.lsub, 0, 0), (.lload 9, 0, 0), (.ldiv, 0, 0), (.lneg, 0, 0), (.lstore 13, 0, 0)] [] (by decide +kernel) rfl ⟨wnz hx.1, trivial⟩ ?_
    obtain ⟨f, ef, hfl⟩ := flo_2 hx.1 (by assumption)
    exact go_as (tp_313 l B A G mm P dm ncl cnt hM hB hN h3 a b c hf hf2 x w hx f hfl hE (j1) (j2) (j6) (j11) (j12) (j15) (j16)) rfl (by rw [ef]) rfl
  · skip
    replace c1 : ¬ (((Int64.ofInt x) : Int64) < 0) := fun zz => c1 (lg_lt.mpr zz)
    refine go_blk (pc2 := 296) (L2 := [.ref 0, j1, j2, .int a, .int b, .int c, j6, .long (Int64.ofInt x), .null, .long (Int64.ofInt w), .null, j11, j12, j13, j14, j15, j16]) (st2 := [.long ((Int64.ofInt x) / (Int64.ofInt w))]) (M2 := (A, G, PF)) (hs2 := []) (C := (¬ (Int64.ofInt w) = 0) ∧ True) [(.lload 7, 0, 0), (.lload 9, 0, 0), (.ldiv, 0, 0)] [] (by decide +kernel) rfl ⟨wnz hx.1, trivial⟩ ?_
    refine go_goto (off := 15) 311 (by decide +kernel) (by decide) ?_
    refine go_blk (pc2 := 313) (L2 := [.ref 0, j1, j2, .int a, .int b, .int c, j6, .long (Int64.ofInt x), .null, .long (Int64.ofInt w), .null, j11, j12, .long ((Int64.ofInt x) / (Int64.ofInt w)), .null, j15, j16]) (st2 := []) (M2 := (A, G, PF)) (hs2 := []) (C := True) [(.lstore 13, 0, 0)] [] (by decide +kernel) rfl trivial ?_
    obtain ⟨f, ef, hfl⟩ := flo_1 hx.1 (by assumption)
    exact go_as (tp_313 l B A G mm P dm ncl cnt hM hB hN h3 a b c hf hf2 x w hx f hfl hE (j1) (j2) (j6) (j11) (j12) (j15) (j16)) rfl (by rw [ef]) rfl
