/-! ===== three equations: the law's check on a desk of its own ===== -/
theorem q_linF (l : Launch) (A : Nat → Nat → Int32) (G : Nat → Nat → Int64) {kk : Nat} (hkk : kk < 5) {a b c d : Int32} (e : Int32) (hf : f9 a ∧ f9 b ∧ f9 c) (hd : f99 d) {x : Int32} (hx : x = nI kk) {dm dm2 : Nat} (hA : Ati A dm) (hdm : dm < 32) (h2 : dm ||| 2 ^ kk = dm2) :
    Sem l mX5_linear [.ref 0, .int x, .int a, .int b, .int c, .int d, .int e] 27 (A, G, PF) 27 (fun r M2 => r = some (.int 1) ∧ ∃ A2, M2 = (A2, G, PF) ∧ Ati A2 dm2 ∧ (∀ k, row3 A2 k = if k = kk then (a, b, c, d) else row3 A k) ∧ ∀ k, A2 2 k = if k = kk then (if e = 0 then 1 else 2) else A 2 k) := by
  refine (q_lin l A G hkk e hf hd hx).mono ?_
  rintro v M ⟨rfl, rfl⟩
  refine ⟨rfl, _, rfl, by rw [← h2]; exact hA.lin hdm hkk e hf, fun k => ?_, fun k => ?_⟩
  · unfold row3 dlin
    by_cases q : k = kk
    · subst q
      simp [u2]
    · simp [u2, q]
  · unfold dlin
    by_cases q : k = kk
    · subst q
      simp [u2]
    · simp [u2, q]
theorem th_1 {e u : Int32} (he : e.toInt.natAbs ≤ 432) (hu : u.toInt.natAbs ≤ 99) (h : e = u) : (e - u).toInt = 0 := by
  rw [(eu_d he hu).1, h]; omega
theorem th_2 {e u : Int32} (he : e.toInt.natAbs ≤ 432) (hu : u.toInt.natAbs ≤ 99) (h : ¬ e = u) : ¬ (e - u).toInt = 0 := by
  rw [(eu_d he hu).1]
  exact fun z => h (Int32.toInt_inj.mp (by omega))
theorem th_3 {e u : Int32} (he : e.toInt.natAbs ≤ 432) (hu : u.toInt.natAbs ≤ 99) (h : ¬ u < e) : (e - u).toInt ≤ 0 := by
  rw [(eu_d he hu).1]
  have := Int32.le_iff_toInt_le.mp (Int32.not_lt.mp h)
  omega
theorem th_4 {e u : Int32} (he : e.toInt.natAbs ≤ 432) (hu : u.toInt.natAbs ≤ 99) (h : u < e) : ¬ (e - u).toInt ≤ 0 := by
  rw [(eu_d he hu).1]
  have := Int32.lt_iff_toInt_lt.mp h
  omega
theorem fxa_of {A A1 A2 A3 A4 A5 : Nat → Nat → Int32} {x y z e u f k4 a3 b3 c3 a4 b4 c4 : Int32} {th : Prop}
    (r1 : ∀ k, row3 A1 k = if k = 0 then (1, 0, 0, x) else row3 A k) (r2 : ∀ k, row3 A2 k = if k = 1 then (2, 1, 0, 2 * x + y) else row3 A1 k) (r3 : ∀ k, row3 A3 k = if k = 2 then (0, -1, 3, 3 * z - y) else row3 A2 k) (r4 : ∀ k, row3 A4 k = if k = 3 then (a3, b3, c3, u) else row3 A3 k) (r5 : ∀ k, row3 A5 k = if k = 4 then (a4, b4, c4, f) else row3 A4 k)
    (t1 : ∀ k, A1 2 k = if k = 0 then (if (1 : Int32) = 0 then 1 else 2) else A 2 k) (t2 : ∀ k, A2 2 k = if k = 1 then (if (1 : Int32) = 0 then 1 else 2) else A1 2 k) (t3 : ∀ k, A3 2 k = if k = 2 then (if (1 : Int32) = 0 then 1 else 2) else A2 2 k) (t4 : ∀ k, A4 2 k = if k = 3 then (if k4 = 0 then 1 else 2) else A3 2 k) (t5 : ∀ k, A5 2 k = if k = 4 then (if (0 : Int32) = 0 then 1 else 2) else A4 2 k)
    (he : a3 * x + b3 * y + c3 * z = e) (hf : a4 * x + b4 * y + c4 * z = f) (hb : x.toInt.natAbs ≤ 16 ∧ y.toInt.natAbs ≤ 16 ∧ z.toInt.natAbs ≤ 16) (hd : (e - u).toInt.natAbs ≤ 1000) (hth : (k4 = 0 ∧ (th ↔ (e - u).toInt ≤ 0)) ∨ (k4 = 1 ∧ (th ↔ (e - u).toInt = 0))) : FxA A5 x y z e u th := by
  refine ⟨⟨?_, ?_, ?_⟩, ⟨a3, b3, c3, ?_, he⟩, ⟨a4, b4, c4, f, ?_, hf⟩, ⟨?_, ?_, ?_⟩, ?_, ?_, hb, hd⟩
  · rw [r5, if_neg (by decide), r4, if_neg (by decide), r3, if_neg (by decide), r2, if_neg (by decide), r1, if_pos rfl]
  · rw [r5, if_neg (by decide), r4, if_neg (by decide), r3, if_neg (by decide), r2, if_pos rfl]
  · rw [r5, if_neg (by decide), r4, if_neg (by decide), r3, if_pos rfl]
  · rw [r5, if_neg (by decide), r4, if_pos rfl]
  · rw [r5, if_pos rfl]
  · rw [t5, if_neg (by decide), t4, if_neg (by decide), t3, if_neg (by decide), t2, if_neg (by decide), t1, if_pos rfl]
    decide
  · rw [t5, if_neg (by decide), t4, if_neg (by decide), t3, if_neg (by decide), t2, if_pos rfl]
    decide
  · rw [t5, if_neg (by decide), t4, if_neg (by decide), t3, if_pos rfl]
    decide
  · rcases hth with ⟨rfl, h⟩ | ⟨rfl, h⟩
    · refine Or.inl ⟨?_, h⟩
      rw [t5, if_neg (by decide), t4, if_pos rfl]
      decide
    · refine Or.inr ⟨?_, h⟩
      rw [t5, if_neg (by decide), t4, if_pos rfl]
      decide
  · rw [t5, if_pos rfl]
    decide
theorem Ati.ki {A : Nat → Nat → Int32} {dm : Nat} (h : Ati A dm) (hd : dm < 32) : KI A dm 0 := ⟨h.1, h.2.1, h.2.2.1, hd, h.2.2.2.1, by decide⟩
theorem Ati.nrr {A : Nat → Nat → Int32} {dm : Nat} (h : Ati A dm) : Nrr A := ⟨h.2.2.2.2.2.1, h.2.2.2.2.2.2.1⟩
theorem q_worlds_f (l : Launch) {A5 A : Nat → Nat → Int32} (G : Nat → Nat → Int64) {x y z e u : Int32} {th : Prop} {s0 : Nat} (h5 : Ati A5 31) (hE : Ext A5 A 0 (fun i => 2 * i) 3 0) (hX : FxA A5 x y z e u th) (h0 : (th ∧ s0 = 31) ∨ (¬ th ∧ s0 = 23)) :
    Sem l mX5_worlds [.ref 0] 27 (A, G, PF) 27 (fun r M2 => r = some (.int 1) ∧ ∃ B cnt, M2 = (B, G, PF) ∧ Fin3 B cnt x y z e u th) := by
  have hK : KI A 31 3 := hE.ki (h5.ki (by decide)) (by decide)
  have hst : ¬ A 0 5 = 0 := by
    rw [hE.1 0 (by decide) (by decide) (by decide) (by decide)]
    exact h5.2.2.2.2.2.2.2
  have hc3 : Cl3 A := fun i hi => by
    have := hE.2.2.1 i hi
    rw [Nat.zero_add] at this
    exact this
  have e2 := hE.1 2 (by decide) (by decide) (by decide) (by decide)
  have e3 : ∀ k, row3 A k = row3 A5 k := fun k => by
    unfold row3
    rw [hE.1 3 (by decide) (by decide) (by decide) (by decide), hE.1 4 (by decide) (by decide) (by decide) (by decide), hE.1 5 (by decide) (by decide) (by decide) (by decide), hE.1 6 (by decide) (by decide) (by decide) (by decide)]
  have hXA : FxA A x y z e u th := by
    unfold FxA
    rw [e2, e3, e3, e3, e3, e3]
    exact hX
  refine (s_X5_worlds l A G 31 3 hK (fun zz => absurd zz hst)).mono ?_
  rintro v M ⟨B, cnt, rfl, hC, hR, hz, rfl⟩
  have hF := fin_of hK hE.2.2.2.2.1 (h5.nrr.ext hE) hXA hc3 hC hR hz.1
  refine ⟨?_, B, cnt, rfl, hF⟩
  show some (Value.int (nI (cntw B 31 3 32))) = _
  have hs : s0 < 32 := by rcases h0 with ⟨-, rfl⟩ | ⟨-, rfl⟩ <;> decide
  rw [cnt_one (hF.wd h0) 32 (Nat.le_refl _), if_pos hs]
  rfl
theorem q_most_f (l : Launch) {B : Nat → Nat → Int32} (G : Nat → Nat → Int64) {cnt : Nat} {x y z e u : Int32} {th : Prop} {s0 : Nat} (hF : Fin3 B cnt x y z e u th) (h0 : (th ∧ s0 = 31) ∨ (¬ th ∧ s0 = 23)) {a b c : Int32} (hf : f9 a ∧ f9 b ∧ f9 c) :
    Sem l mX5_most [.ref 0, .int a, .int b, .int c] 27 (B, G, PF) 27 (fun r M2 => r = some (.int 2) ∧ ∃ A3 G3, M2 = (A3, G3, PF) ∧ Ext B A3 3 (fun _ => 0) 0 0 ∧ G3 0 6 = Int64.ofInt (vP a b c x y z) ∧ G3 0 7 = 1) := by
  have hS := hF.1
  have hN := hF.2.1
  refine (s_X5_most l B G 31 3 hS.1 (fun _ => ⟨cnt, hS.2.1⟩) a b c (fun _ A2 c2 hr hc => numOk hf hc ((hN.rf hr).cb hc))).mono ?_
  rintro v M (⟨zz, -⟩ | ⟨-, A2, A3, G3, c2, n0, w0, rfl, ⟨m1, m2, m3, m4, m5⟩, n1, n2, n3, rfl⟩)
  · exact absurd hf zz
  · have ee := m3.2 hS.2.2
    subst ee
    have ee := cnt_u m1 hS.2.1
    subst ee
    obtain ⟨z1, z2, z3⟩ := most_pt hF h0 hf (pkT hf m1 (hN.cb m1)) n1
    exact ⟨by rw [z3], A3, G3, rfl, (Ext.rf hS.1 hF.2.2.2.2 _).k26 m4, n2.trans z1, n3.trans z2⟩
theorem v_321 {x y z : Int32} (hb : x.toInt.natAbs ≤ 16 ∧ y.toInt.natAbs ≤ 16 ∧ z.toInt.natAbs ≤ 16) : Int64.ofInt (vP 3 (-2) 1 x y z) = (((3 * x) - (2 * y)) + z).toInt64 := by
  have h := (form_I (a := 3) (b := -2) (c := 1) ⟨⟨by decide, by decide⟩, ⟨by decide, by decide⟩, ⟨by decide, by decide⟩⟩ hb).1
  rw [show (3 * x) - (2 * y) + z = 3 * x + (-2) * y + 1 * z by grind, to64, h]
theorem v_111 {x y z : Int32} (hb : x.toInt.natAbs ≤ 16 ∧ y.toInt.natAbs ≤ 16 ∧ z.toInt.natAbs ≤ 16) : ((x + y) + z).toInt = vP 1 1 1 x y z ∧ (((x + y) + z) - 1).toInt = vP 1 1 1 x y z - 1 ∧ (vP 1 1 1 x y z).natAbs ≤ 48 := by
  have e1 := addI (a := x) (b := y) (by omega) (by omega)
  have e2 := addI (a := x + y) (b := z) (by omega) (by omega)
  have e0 : (1 : Int32).toInt = 1 := by decide
  have e3 : (((x + y) + z) - 1).toInt = ((x + y) + z).toInt - (1 : Int32).toInt := sub_toInt (by omega) (by decide)
  have e4 : vP 1 1 1 x y z = x.toInt + y.toInt + z.toInt := by
    unfold vP
    rw [e0]
    omega
  rw [e4]
  exact ⟨by omega, by omega, by omega⟩
theorem f1_ok : f9 (1 : Int32) ∧ f9 (1 : Int32) ∧ f9 (1 : Int32) := ⟨⟨by decide, by decide⟩, ⟨by decide, by decide⟩, ⟨by decide, by decide⟩⟩
theorem bd_1 {B : Nat → Nat → Int32} {cnt : Nat} {x y z e u : Int32} {th : Prop} {s0 : Nat} (hF : Fin3 B cnt x y z e u th) (h0 : (th ∧ s0 = 31) ∨ (¬ th ∧ s0 = 23)) {t : Tr} (hP : PkI B 1 1 1 cnt (Cel B 31 3) t) : t.1 ≤ ((x + y) + z).toInt64 * t.2.1 ∧ ¬ t.1 ≤ (((x + y) + z) - 1).toInt64 * t.2.1 := by
  obtain ⟨v1, v2, v3⟩ := v_111 hF.bx
  rw [to64, to64, v1, v2, bnd_pt hF h0 f1_ok hP (by omega), bnd_pt hF h0 f1_ok hP (by omega)]
  omega
theorem bd_f {x y z : Int32} (hb : x.toInt.natAbs ≤ 16 ∧ y.toInt.natAbs ≤ 16 ∧ z.toInt.natAbs ≤ 16) : f99 ((x + y) + z) ∧ f99 (((x + y) + z) - 1) := by
  obtain ⟨v1, v2, v3⟩ := v_111 hb
  exact ⟨f99_of (by omega), f99_of (by omega)⟩
theorem m5 : Mm 5 32 31 := Or.inr (Or.inr (Or.inr ⟨rfl, rfl, rfl⟩))
set_option maxRecDepth 100000 in
set_option maxHeartbeats 4000000 in
theorem fx_main (l : Launch) (A : Nat → Nat → Int32) (G : Nat → Nat → Int64) (hA : Ati A 0) (w c d : Int32) : Go l ro0 mX6_fixed 27 (A, G, PF) 8 [.int w, .int c, .int d, .ref 0, .null, .null, .null, .null, .null, .null, .null] [] 27 (fun v _ => v = some (.int 1)) := by
  refine go_blk (pc2 := 17) (L2 := [.int w, .int c, .int d, .ref 0, .int ((w &&& 31) - 15), .null, .null, .null, .null, .null, .null]) (st2 := []) (M2 := (A, G, PF)) (hs2 := []) (C := True) [(.iload_n 0, 0, 0), (.bipush 31, 0, 0), (.iand, 0, 0), (.bipush 15, 0, 0), (.isub, 0, 0), (.istore 4, 0, 0)] [] (by decide +kernel) rfl trivial ?_
  obtain ⟨x, ex⟩ : ∃ zz : Int32, zz = ((w &&& 31) - 15) := ⟨_, rfl⟩
  rw [← ex]
  refine go_blk (pc2 := 28) (L2 := [.int w, .int c, .int d, .ref 0, .int x, .int (((w >>> (5 &&& 31)) &&& 31) - 15), .null, .null, .null, .null, .null]) (st2 := []) (M2 := (A, G, PF)) (hs2 := []) (C := True) [(.iload_n 0, 0, 0), (.iconst 5, 0, 0), (.ishr, 0, 0), (.bipush 31, 0, 0), (.iand, 0, 0), (.bipush 15, 0, 0), (.isub, 0, 0), (.istore 5, 0, 0)] [] (by decide +kernel) rfl trivial ?_
  obtain ⟨y, ey⟩ : ∃ zz : Int32, zz = (((w >>> (5 &&& 31)) &&& 31) - 15) := ⟨_, rfl⟩
  rw [← ey]
  refine go_blk (pc2 := 40) (L2 := [.int w, .int c, .int d, .ref 0, .int x, .int y, .int (((w >>> (10 &&& 31)) &&& 31) - 15), .null, .null, .null, .null]) (st2 := []) (M2 := (A, G, PF)) (hs2 := []) (C := True) [(.iload_n 0, 0, 0), (.bipush 10, 0, 0), (.ishr, 0, 0), (.bipush 31, 0, 0), (.iand, 0, 0), (.bipush 15, 0, 0), (.isub, 0, 0), (.istore 6, 0, 0)] [] (by decide +kernel) rfl trivial ?_
  obtain ⟨z, ez⟩ : ∃ zz : Int32, zz = (((w >>> (10 &&& 31)) &&& 31) - 15) := ⟨_, rfl⟩
  rw [← ez]
  refine go_blk (pc2 := 48) (L2 := [.int w, .int c, .int d, .ref 0, .int x, .int y, .int z, .null, .null, .null, .null]) (st2 := [.int 1, .int x, .int 0, .int 0, .int 1, .int 0, .ref 0]) (M2 := (A, G, PF)) (hs2 := []) (C := True) [(.aload_n 3, 0, 0), (.iconst 0, 0, 0), (.iconst 1, 0, 0), (.iconst 0, 0, 0), (.iconst 0, 0, 0), (.iload 4, 0, 0), (.iconst 1, 0, 0)] [] (by decide +kernel) rfl trivial ?_
  refine go_call (Y2 := mX5_linear) (n2 := 27) (st := []) [.ref 0] [.int 0, .int 1, .int 0, .int 0, .int x, .int 1] ck_6_23 cwX5_linear rfl (by decide +kernel) rfl (fun h => absurd h (by decide)) (fun _ => ⟨0, rfl, by decide, rfl⟩) (Nat.le_of_ble_eq_true rfl) (Or.inl rfl) (fun _ _ _ h => h) (q_linF l A G (kk := 0) (by decide) 1 ⟨⟨by decide, by decide⟩, ⟨by decide, by decide⟩, ⟨by decide, by decide⟩⟩ ((f99_of (by rw [ex]; have := b16 w; omega))) rfl (dm := 0) (dm2 := 1) hA (by decide) (by decide)) (fun v M2 hp1 => ?_)
  obtain ⟨rfl, A1, rfl, hA1, r1, t1⟩ := hp1
  have hb : x.toInt.natAbs ≤ 16 ∧ y.toInt.natAbs ≤ 16 ∧ z.toInt.natAbs ≤ 16 := ⟨by rw [ex]; exact b16 _, by rw [ey]; exact b16 _, by rw [ez]; exact b16 _⟩
  show Go l ro0 mX6_fixed 27 (A1, G, PF) 51 [.int w, .int c, .int d, .ref 0, .int x, .int y, .int z, .null, .null, .null, .null] [.int 1] 27 _
  refine go_ifz (cnd := .eq) (off := 41) 92 (by decide +kernel) (by decide) (fun (h : (1 : Int32) = 0) => absurd h (by decide)) (fun _ => ?_)
  refine go_blk (pc2 := 67) (L2 := [.int w, .int c, .int d, .ref 0, .int x, .int y, .int z, .null, .null, .null, .null]) (st2 := [.int 1, .int ((2 * x) + y), .int 0, .int 1, .int 2, .int 1, .ref 0]) (M2 := (A1, G, PF)) (hs2 := []) (C := True) [(.aload_n 3, 0, 0), (.iconst 1, 0, 0), (.iconst 2, 0, 0), (.iconst 1, 0, 0), (.iconst 0, 0, 0), (.iconst 2, 0, 0), (.iload 4, 0, 0), (.imul, 0, 0), (.iload 5, 0, 0), (.iadd, 0, 0), (.iconst 1, 0, 0)] [] (by decide +kernel) rfl trivial ?_
  refine go_call (Y2 := mX5_linear) (n2 := 27) (st := []) [.ref 0] [.int 1, .int 2, .int 1, .int 0, .int ((2 * x) + y), .int 1] ck_6_23 cwX5_linear rfl (by decide +kernel) rfl (fun h => absurd h (by decide)) (fun _ => ⟨0, rfl, by decide, rfl⟩) (Nat.le_of_ble_eq_true rfl) (Or.inl rfl) (fun _ _ _ h => h) (q_linF l A1 G (kk := 1) (by decide) 1 ⟨⟨by decide, by decide⟩, ⟨by decide, by decide⟩, ⟨by decide, by decide⟩⟩ ((d_1 hb).2.1) rfl (dm := 1) (dm2 := 3) hA1 (by decide) (by decide)) (fun v M2 hp2 => ?_)
  obtain ⟨rfl, A2, rfl, hA2, r2, t2⟩ := hp2
  show Go l ro0 mX6_fixed 27 (A2, G, PF) 70 [.int w, .int c, .int d, .ref 0, .int x, .int y, .int z, .null, .null, .null, .null] [.int 1] 27 _
  refine go_ifz (cnd := .eq) (off := 22) 92 (by decide +kernel) (by decide) (fun (h : (1 : Int32) = 0) => absurd h (by decide)) (fun _ => ?_)
  refine go_blk (pc2 := 86) (L2 := [.int w, .int c, .int d, .ref 0, .int x, .int y, .int z, .null, .null, .null, .null]) (st2 := [.int 1, .int ((3 * z) - y), .int 3, .int (-1), .int 0, .int 2, .ref 0]) (M2 := (A2, G, PF)) (hs2 := []) (C := True) [(.aload_n 3, 0, 0), (.iconst 2, 0, 0), (.iconst 0, 0, 0), (.iconst (-1), 0, 0), (.iconst 3, 0, 0), (.iconst 3, 0, 0), (.iload 6, 0, 0), (.imul, 0, 0), (.iload 5, 0, 0), (.isub, 0, 0), (.iconst 1, 0, 0)] [] (by decide +kernel) rfl trivial ?_
  refine go_call (Y2 := mX5_linear) (n2 := 27) (st := []) [.ref 0] [.int 2, .int 0, .int (-1), .int 3, .int ((3 * z) - y), .int 1] ck_6_23 cwX5_linear rfl (by decide +kernel) rfl (fun h => absurd h (by decide)) (fun _ => ⟨0, rfl, by decide, rfl⟩) (Nat.le_of_ble_eq_true rfl) (Or.inl rfl) (fun _ _ _ h => h) (q_linF l A2 G (kk := 2) (by decide) 1 ⟨⟨by decide, by decide⟩, ⟨by decide, by decide⟩, ⟨by decide, by decide⟩⟩ ((d_1 hb).2.2) rfl (dm := 3) (dm2 := 7) hA2 (by decide) (by decide)) (fun v M2 hp3 => ?_)
  obtain ⟨rfl, A3, rfl, hA3, r3, t3⟩ := hp3
  show Go l ro0 mX6_fixed 27 (A3, G, PF) 89 [.int w, .int c, .int d, .ref 0, .int x, .int y, .int z, .null, .null, .null, .null] [.int 1] 27 _
  refine go_ifz (cnd := .ne) (off := 5) 94 (by decide +kernel) (by decide) (fun _ => ?_) (fun (h : (1 : Int32) = 0) => absurd h (by decide))
  refine go_blk (pc2 := 95) (L2 := [.int w, .int c, .int d, .ref 0, .int x, .int y, .int z, .null, .null, .null, .null]) (st2 := [.int c]) (M2 := (A3, G, PF)) (hs2 := []) (C := True) [(.iload_n 1, 0, 0)] [] (by decide +kernel) rfl trivial ?_
  refine go_call (Y2 := mX6_small) (n2 := 27) (st := []) [] [.int c] ck_6_19 cwX6_small rfl (by decide +kernel) rfl (fun _ => rfl) (fun h => absurd rfl h) (Nat.le_of_ble_eq_true rfl) (Or.inl rfl) (fun _ _ _ h => h) (s_X6_small l A3 G c) (fun v M2 hp4 => ?_)
  obtain ⟨rfl, rfl⟩ := hp4
  show Go l ro0 mX6_fixed 27 (A3, G, PF) 98 [.int w, .int c, .int d, .ref 0, .int x, .int y, .int z, .null, .null, .null, .null] [.int (smf c)] 27 _
  refine go_blk (pc2 := 104) (L2 := [.int w, .int c, .int d, .ref 0, .int x, .int y, .int z, .null, .null, .null, .null]) (st2 := [.int (c >>> (3 &&& 31)), .int ((smf c) * x)]) (M2 := (A3, G, PF)) (hs2 := []) (C := True) [(.iload 4, 0, 0), (.imul, 0, 0), (.iload_n 1, 0, 0), (.iconst 3, 0, 0), (.ishr, 0, 0)] [] (by decide +kernel) rfl trivial ?_
  refine go_call (Y2 := mX6_small) (n2 := 27) (st := [.int ((smf c) * x)]) [] [.int (c >>> (3 &&& 31))] ck_6_19 cwX6_small rfl (by decide +kernel) rfl (fun _ => rfl) (fun h => absurd rfl h) (Nat.le_of_ble_eq_true rfl) (Or.inl rfl) (fun _ _ _ h => h) (s_X6_small l A3 G (c >>> (3 &&& 31))) (fun v M2 hp5 => ?_)
  obtain ⟨rfl, rfl⟩ := hp5
  show Go l ro0 mX6_fixed 27 (A3, G, PF) 107 [.int w, .int c, .int d, .ref 0, .int x, .int y, .int z, .null, .null, .null, .null] [.int (smf (c >>> (3 &&& 31))), .int ((smf c) * x)] 27 _
  refine go_blk (pc2 := 115) (L2 := [.int w, .int c, .int d, .ref 0, .int x, .int y, .int z, .null, .null, .null, .null]) (st2 := [.int (c >>> (6 &&& 31)), .int (((smf c) * x) + ((smf (c >>> (3 &&& 31))) * y))]) (M2 := (A3, G, PF)) (hs2 := []) (C := True) [(.iload 5, 0, 0), (.imul, 0, 0), (.iadd, 0, 0), (.iload_n 1, 0, 0), (.bipush 6, 0, 0), (.ishr, 0, 0)] [] (by decide +kernel) rfl trivial ?_
  refine go_call (Y2 := mX6_small) (n2 := 27) (st := [.int (((smf c) * x) + ((smf (c >>> (3 &&& 31))) * y))]) [] [.int (c >>> (6 &&& 31))] ck_6_19 cwX6_small rfl (by decide +kernel) rfl (fun _ => rfl) (fun h => absurd rfl h) (Nat.le_of_ble_eq_true rfl) (Or.inl rfl) (fun _ _ _ h => h) (s_X6_small l A3 G (c >>> (6 &&& 31))) (fun v M2 hp6 => ?_)
  obtain ⟨rfl, rfl⟩ := hp6
  show Go l ro0 mX6_fixed 27 (A3, G, PF) 118 [.int w, .int c, .int d, .ref 0, .int x, .int y, .int z, .null, .null, .null, .null] [.int (smf (c >>> (6 &&& 31))), .int (((smf c) * x) + ((smf (c >>> (3 &&& 31))) * y))] 27 _
  refine go_blk (pc2 := 124) (L2 := [.int w, .int c, .int d, .ref 0, .int x, .int y, .int z, .int ((((smf c) * x) + ((smf (c >>> (3 &&& 31))) * y)) + ((smf (c >>> (6 &&& 31))) * z)), .null, .null, .null]) (st2 := []) (M2 := (A3, G, PF)) (hs2 := []) (C := True) [(.iload 6, 0, 0), (.imul, 0, 0), (.iadd, 0, 0), (.istore 7, 0, 0)] [] (by decide +kernel) rfl trivial ?_
  obtain ⟨e, ee⟩ : ∃ zz : Int32, zz = ((((smf c) * x) + ((smf (c >>> (3 &&& 31))) * y)) + ((smf (c >>> (6 &&& 31))) * z)) := ⟨_, rfl⟩
  rw [← ee]
  refine go_blk (pc2 := 125) (L2 := [.int w, .int c, .int d, .ref 0, .int x, .int y, .int z, .int e, .null, .null, .null]) (st2 := [.int d]) (M2 := (A3, G, PF)) (hs2 := []) (C := True) [(.iload_n 2, 0, 0)] [] (by decide +kernel) rfl trivial ?_
  refine go_call (Y2 := mX6_small) (n2 := 27) (st := []) [] [.int d] ck_6_19 cwX6_small rfl (by decide +kernel) rfl (fun _ => rfl) (fun h => absurd rfl h) (Nat.le_of_ble_eq_true rfl) (Or.inl rfl) (fun _ _ _ h => h) (s_X6_small l A3 G d) (fun v M2 hp7 => ?_)
  obtain ⟨rfl, rfl⟩ := hp7
  show Go l ro0 mX6_fixed 27 (A3, G, PF) 128 [.int w, .int c, .int d, .ref 0, .int x, .int y, .int z, .int e, .null, .null, .null] [.int (smf d)] 27 _
  refine go_blk (pc2 := 134) (L2 := [.int w, .int c, .int d, .ref 0, .int x, .int y, .int z, .int e, .null, .null, .null]) (st2 := [.int (d >>> (3 &&& 31)), .int ((smf d) * x)]) (M2 := (A3, G, PF)) (hs2 := []) (C := True) [(.iload 4, 0, 0), (.imul, 0, 0), (.iload_n 2, 0, 0), (.iconst 3, 0, 0), (.ishr, 0, 0)] [] (by decide +kernel) rfl trivial ?_
  refine go_call (Y2 := mX6_small) (n2 := 27) (st := [.int ((smf d) * x)]) [] [.int (d >>> (3 &&& 31))] ck_6_19 cwX6_small rfl (by decide +kernel) rfl (fun _ => rfl) (fun h => absurd rfl h) (Nat.le_of_ble_eq_true rfl) (Or.inl rfl) (fun _ _ _ h => h) (s_X6_small l A3 G (d >>> (3 &&& 31))) (fun v M2 hp8 => ?_)
  obtain ⟨rfl, rfl⟩ := hp8
  show Go l ro0 mX6_fixed 27 (A3, G, PF) 137 [.int w, .int c, .int d, .ref 0, .int x, .int y, .int z, .int e, .null, .null, .null] [.int (smf (d >>> (3 &&& 31))), .int ((smf d) * x)] 27 _
  refine go_blk (pc2 := 145) (L2 := [.int w, .int c, .int d, .ref 0, .int x, .int y, .int z, .int e, .null, .null, .null]) (st2 := [.int (d >>> (6 &&& 31)), .int (((smf d) * x) + ((smf (d >>> (3 &&& 31))) * y))]) (M2 := (A3, G, PF)) (hs2 := []) (C := True) [(.iload 5, 0, 0), (.imul, 0, 0), (.iadd, 0, 0), (.iload_n 2, 0, 0), (.bipush 6, 0, 0), (.ishr, 0, 0)] [] (by decide +kernel) rfl trivial ?_
  refine go_call (Y2 := mX6_small) (n2 := 27) (st := [.int (((smf d) * x) + ((smf (d >>> (3 &&& 31))) * y))]) [] [.int (d >>> (6 &&& 31))] ck_6_19 cwX6_small rfl (by decide +kernel) rfl (fun _ => rfl) (fun h => absurd rfl h) (Nat.le_of_ble_eq_true rfl) (Or.inl rfl) (fun _ _ _ h => h) (s_X6_small l A3 G (d >>> (6 &&& 31))) (fun v M2 hp9 => ?_)
  obtain ⟨rfl, rfl⟩ := hp9
  show Go l ro0 mX6_fixed 27 (A3, G, PF) 148 [.int w, .int c, .int d, .ref 0, .int x, .int y, .int z, .int e, .null, .null, .null] [.int (smf (d >>> (6 &&& 31))), .int (((smf d) * x) + ((smf (d >>> (3 &&& 31))) * y))] 27 _
  refine go_blk (pc2 := 154) (L2 := [.int w, .int c, .int d, .ref 0, .int x, .int y, .int z, .int e, .int ((((smf d) * x) + ((smf (d >>> (3 &&& 31))) * y)) + ((smf (d >>> (6 &&& 31))) * z)), .null, .null]) (st2 := []) (M2 := (A3, G, PF)) (hs2 := []) (C := True) [(.iload 6, 0, 0), (.imul, 0, 0), (.iadd, 0, 0), (.istore 8, 0, 0)] [] (by decide +kernel) rfl trivial ?_
  obtain ⟨f, ef⟩ : ∃ zz : Int32, zz = ((((smf d) * x) + ((smf (d >>> (3 &&& 31))) * y)) + ((smf (d >>> (6 &&& 31))) * z)) := ⟨_, rfl⟩
  rw [← ef]
  refine go_blk (pc2 := 167) (L2 := [.int w, .int c, .int d, .ref 0, .int x, .int y, .int z, .int e, .int f, .int ((e + ((c >>> (9 &&& 31)) &&& 3)) - 1), .null]) (st2 := []) (M2 := (A3, G, PF)) (hs2 := []) (C := True) [(.iload 7, 0, 0), (.iload_n 1, 0, 0), (.bipush 9, 0, 0), (.ishr, 0, 0), (.iconst 3, 0, 0), (.iand, 0, 0), (.iadd, 0, 0), (.iconst 1, 0, 0), (.isub, 0, 0), (.istore 9, 0, 0)] [] (by decide +kernel) rfl trivial ?_
  obtain ⟨u, eu⟩ : ∃ zz : Int32, zz = ((e + ((c >>> (9 &&& 31)) &&& 3)) - 1) := ⟨_, rfl⟩
  rw [← eu]
  refine go_blk (pc2 := 171) (L2 := [.int w, .int c, .int d, .ref 0, .int x, .int y, .int z, .int e, .int f, .int u, .null]) (st2 := [.int (-99), .int u]) (M2 := (A3, G, PF)) (hs2 := []) (C := True) [(.iload 9, 0, 0), (.bipush (-99), 0, 0)] [] (by decide +kernel) rfl trivial ?_
  refine go_cmp (cnd := .lt) (off := 24) 195 (by decide +kernel) (by decide) (fun (c10 : u < (-99)) => ?_) (fun (c10 : ¬ u < (-99)) => ?_)
  · skip
    refine go_blk (pc2 := 196) (L2 := [.int w, .int c, .int d, .ref 0, .int x, .int y, .int z, .int e, .int f, .int u, .null]) (st2 := [.int 1]) (M2 := (A3, G, PF)) (hs2 := []) (C := True) [(.iconst 1, 0, 0)] [] (by decide +kernel) rfl trivial ?_
    exact go_retz (by decide +kernel) rfl (Or.inr rfl) (rfl)
  · skip
    refine go_blk (pc2 := 178) (L2 := [.int w, .int c, .int d, .ref 0, .int x, .int y, .int z, .int e, .int f, .int u, .null]) (st2 := [.int 99, .int u]) (M2 := (A3, G, PF)) (hs2 := []) (C := True) [(.iload 9, 0, 0), (.bipush 99, 0, 0)] [] (by decide +kernel) rfl trivial ?_
    refine go_cmp (cnd := .gt) (off := 17) 195 (by decide +kernel) (by decide) (fun (c11 : 99 < u) => ?_) (fun (c11 : ¬ 99 < u) => ?_)
    · skip
      refine go_blk (pc2 := 196) (L2 := [.int w, .int c, .int d, .ref 0, .int x, .int y, .int z, .int e, .int f, .int u, .null]) (st2 := [.int 1]) (M2 := (A3, G, PF)) (hs2 := []) (C := True) [(.iconst 1, 0, 0)] [] (by decide +kernel) rfl trivial ?_
      exact go_retz (by decide +kernel) rfl (Or.inr rfl) (rfl)
    · skip
      refine go_blk (pc2 := 185) (L2 := [.int w, .int c, .int d, .ref 0, .int x, .int y, .int z, .int e, .int f, .int u, .null]) (st2 := [.int (-99), .int f]) (M2 := (A3, G, PF)) (hs2 := []) (C := True) [(.iload 8, 0, 0), (.bipush (-99), 0, 0)] [] (by decide +kernel) rfl trivial ?_
      refine go_cmp (cnd := .lt) (off := 10) 195 (by decide +kernel) (by decide) (fun (c12 : f < (-99)) => ?_) (fun (c12 : ¬ f < (-99)) => ?_)
      · skip
        refine go_blk (pc2 := 196) (L2 := [.int w, .int c, .int d, .ref 0, .int x, .int y, .int z, .int e, .int f, .int u, .null]) (st2 := [.int 1]) (M2 := (A3, G, PF)) (hs2 := []) (C := True) [(.iconst 1, 0, 0)] [] (by decide +kernel) rfl trivial ?_
        exact go_retz (by decide +kernel) rfl (Or.inr rfl) (rfl)
      · skip
        refine go_blk (pc2 := 192) (L2 := [.int w, .int c, .int d, .ref 0, .int x, .int y, .int z, .int e, .int f, .int u, .null]) (st2 := [.int 99, .int f]) (M2 := (A3, G, PF)) (hs2 := []) (C := True) [(.iload 8, 0, 0), (.bipush 99, 0, 0)] [] (by decide +kernel) rfl trivial ?_
        refine go_cmp (cnd := .le) (off := 5) 197 (by decide +kernel) (by decide) (fun (c13 : f ≤ 99) => ?_) (fun (c13 : ¬ f ≤ 99) => ?_)
        · skip
          refine go_blk (pc2 := 200) (L2 := [.int w, .int c, .int d, .ref 0, .int x, .int y, .int z, .int e, .int f, .int u, .null]) (st2 := [.int c, .int 3, .ref 0]) (M2 := (A3, G, PF)) (hs2 := []) (C := True) [(.aload_n 3, 0, 0), (.iconst 3, 0, 0), (.iload_n 1, 0, 0)] [] (by decide +kernel) rfl trivial ?_
          refine go_call (Y2 := mX6_small) (n2 := 27) (st := [.int 3, .ref 0]) [] [.int c] ck_6_19 cwX6_small rfl (by decide +kernel) rfl (fun _ => rfl) (fun h => absurd rfl h) (Nat.le_of_ble_eq_true rfl) (Or.inl rfl) (fun _ _ _ h => h) (s_X6_small l A3 G c) (fun v M2 hp14 => ?_)
          obtain ⟨rfl, rfl⟩ := hp14
          show Go l ro0 mX6_fixed 27 (A3, G, PF) 203 [.int w, .int c, .int d, .ref 0, .int x, .int y, .int z, .int e, .int f, .int u, .null] [.int (smf c), .int 3, .ref 0] 27 _
          refine go_blk (pc2 := 206) (L2 := [.int w, .int c, .int d, .ref 0, .int x, .int y, .int z, .int e, .int f, .int u, .null]) (st2 := [.int (c >>> (3 &&& 31)), .int (smf c), .int 3, .ref 0]) (M2 := (A3, G, PF)) (hs2 := []) (C := True) [(.iload_n 1, 0, 0), (.iconst 3, 0, 0), (.ishr, 0, 0)] [] (by decide +kernel) rfl trivial ?_
          refine go_call (Y2 := mX6_small) (n2 := 27) (st := [.int (smf c), .int 3, .ref 0]) [] [.int (c >>> (3 &&& 31))] ck_6_19 cwX6_small rfl (by decide +kernel) rfl (fun _ => rfl) (fun h => absurd rfl h) (Nat.le_of_ble_eq_true rfl) (Or.inl rfl) (fun _ _ _ h => h) (s_X6_small l A3 G (c >>> (3 &&& 31))) (fun v M2 hp15 => ?_)
          obtain ⟨rfl, rfl⟩ := hp15
          show Go l ro0 mX6_fixed 27 (A3, G, PF) 209 [.int w, .int c, .int d, .ref 0, .int x, .int y, .int z, .int e, .int f, .int u, .null] [.int (smf (c >>> (3 &&& 31))), .int (smf c), .int 3, .ref 0] 27 _
          refine go_blk (pc2 := 213) (L2 := [.int w, .int c, .int d, .ref 0, .int x, .int y, .int z, .int e, .int f, .int u, .null]) (st2 := [.int (c >>> (6 &&& 31)), .int (smf (c >>> (3 &&& 31))), .int (smf c), .int 3, .ref 0]) (M2 := (A3, G, PF)) (hs2 := []) (C := True) [(.iload_n 1, 0, 0), (.bipush 6, 0, 0), (.ishr, 0, 0)] [] (by decide +kernel) rfl trivial ?_
          refine go_call (Y2 := mX6_small) (n2 := 27) (st := [.int (smf (c >>> (3 &&& 31))), .int (smf c), .int 3, .ref 0]) [] [.int (c >>> (6 &&& 31))] ck_6_19 cwX6_small rfl (by decide +kernel) rfl (fun _ => rfl) (fun h => absurd rfl h) (Nat.le_of_ble_eq_true rfl) (Or.inl rfl) (fun _ _ _ h => h) (s_X6_small l A3 G (c >>> (6 &&& 31))) (fun v M2 hp16 => ?_)
          obtain ⟨rfl, rfl⟩ := hp16
          show Go l ro0 mX6_fixed 27 (A3, G, PF) 216 [.int w, .int c, .int d, .ref 0, .int x, .int y, .int z, .int e, .int f, .int u, .null] [.int (smf (c >>> (6 &&& 31))), .int (smf (c >>> (3 &&& 31))), .int (smf c), .int 3, .ref 0] 27 _
          refine go_blk (pc2 := 224) (L2 := [.int w, .int c, .int d, .ref 0, .int x, .int y, .int z, .int e, .int f, .int u, .null]) (st2 := [.int ((c >>> (11 &&& 31)) &&& 1), .int u, .int (smf (c >>> (6 &&& 31))), .int (smf (c >>> (3 &&& 31))), .int (smf c), .int 3, .ref 0]) (M2 := (A3, G, PF)) (hs2 := []) (C := True) [(.iload 9, 0, 0), (.iload_n 1, 0, 0), (.bipush 11, 0, 0), (.ishr, 0, 0), (.iconst 1, 0, 0), (.iand, 0, 0)] [] (by decide +kernel) rfl trivial ?_
          refine go_ifz (cnd := .eq) (off := 7) 231 (by decide +kernel) (by decide) (fun (c17 : ((c >>> (11 &&& 31)) &&& 1) = 0) => ?_) (fun (c17 : ¬ ((c >>> (11 &&& 31)) &&& 1) = 0) => ?_)
          · skip
            refine go_blk (pc2 := 232) (L2 := [.int w, .int c, .int d, .ref 0, .int x, .int y, .int z, .int e, .int f, .int u, .null]) (st2 := [.int 0, .int u, .int (smf (c >>> (6 &&& 31))), .int (smf (c >>> (3 &&& 31))), .int (smf c), .int 3, .ref 0]) (M2 := (A3, G, PF)) (hs2 := []) (C := True) [(.iconst 0, 0, 0)] [] (by decide +kernel) rfl trivial ?_
            refine go_call (Y2 := mX5_linear) (n2 := 27) (st := []) [.ref 0] [.int 3, .int (smf c), .int (smf (c >>> (3 &&& 31))), .int (smf (c >>> (6 &&& 31))), .int u, .int 0] ck_6_23 cwX5_linear rfl (by decide +kernel) rfl (fun h => absurd h (by decide)) (fun _ => ⟨0, rfl, by decide, rfl⟩) (Nat.le_of_ble_eq_true rfl) (Or.inl rfl) (fun _ _ _ h => h) (have hu : f99 u := ⟨Int32.not_lt.mp (by assumption), Int32.not_lt.mp (by assumption)⟩; q_linF l A3 G (kk := 3) (by decide) 0 ⟨smf_f9 _, smf_f9 _, smf_f9 _⟩ (hu) rfl (dm := 7) (dm2 := 15) hA3 (by decide) (by decide)) (fun v M2 hp18 => ?_)
            obtain ⟨rfl, A4, rfl, hA4, r4, t4⟩ := hp18
            show Go l ro0 mX6_fixed 27 (A4, G, PF) 235 [.int w, .int c, .int d, .ref 0, .int x, .int y, .int z, .int e, .int f, .int u, .null] [.int 1] 27 _
            refine go_ifz (cnd := .eq) (off := 31) 266 (by decide +kernel) (by decide) (fun (h : (1 : Int32) = 0) => absurd h (by decide)) (fun _ => ?_)
            refine go_blk (pc2 := 241) (L2 := [.int w, .int c, .int d, .ref 0, .int x, .int y, .int z, .int e, .int f, .int u, .null]) (st2 := [.int d, .int 4, .ref 0]) (M2 := (A4, G, PF)) (hs2 := []) (C := True) [(.aload_n 3, 0, 0), (.iconst 4, 0, 0), (.iload_n 2, 0, 0)] [] (by decide +kernel) rfl trivial ?_
            refine go_call (Y2 := mX6_small) (n2 := 27) (st := [.int 4, .ref 0]) [] [.int d] ck_6_19 cwX6_small rfl (by decide +kernel) rfl (fun _ => rfl) (fun h => absurd rfl h) (Nat.le_of_ble_eq_true rfl) (Or.inl rfl) (fun _ _ _ h => h) (s_X6_small l A4 G d) (fun v M2 hp19 => ?_)
            obtain ⟨rfl, rfl⟩ := hp19
            show Go l ro0 mX6_fixed 27 (A4, G, PF) 244 [.int w, .int c, .int d, .ref 0, .int x, .int y, .int z, .int e, .int f, .int u, .null] [.int (smf d), .int 4, .ref 0] 27 _
            refine go_blk (pc2 := 247) (L2 := [.int w, .int c, .int d, .ref 0, .int x, .int y, .int z, .int e, .int f, .int u, .null]) (st2 := [.int (d >>> (3 &&& 31)), .int (smf d), .int 4, .ref 0]) (M2 := (A4, G, PF)) (hs2 := []) (C := True) [(.iload_n 2, 0, 0), (.iconst 3, 0, 0), (.ishr, 0, 0)] [] (by decide +kernel) rfl trivial ?_
            refine go_call (Y2 := mX6_small) (n2 := 27) (st := [.int (smf d), .int 4, .ref 0]) [] [.int (d >>> (3 &&& 31))] ck_6_19 cwX6_small rfl (by decide +kernel) rfl (fun _ => rfl) (fun h => absurd rfl h) (Nat.le_of_ble_eq_true rfl) (Or.inl rfl) (fun _ _ _ h => h) (s_X6_small l A4 G (d >>> (3 &&& 31))) (fun v M2 hp20 => ?_)
            obtain ⟨rfl, rfl⟩ := hp20
            show Go l ro0 mX6_fixed 27 (A4, G, PF) 250 [.int w, .int c, .int d, .ref 0, .int x, .int y, .int z, .int e, .int f, .int u, .null] [.int (smf (d >>> (3 &&& 31))), .int (smf d), .int 4, .ref 0] 27 _
            refine go_blk (pc2 := 254) (L2 := [.int w, .int c, .int d, .ref 0, .int x, .int y, .int z, .int e, .int f, .int u, .null]) (st2 := [.int (d >>> (6 &&& 31)), .int (smf (d >>> (3 &&& 31))), .int (smf d), .int 4, .ref 0]) (M2 := (A4, G, PF)) (hs2 := []) (C := True) [(.iload_n 2, 0, 0), (.bipush 6, 0, 0), (.ishr, 0, 0)] [] (by decide +kernel) rfl trivial ?_
            refine go_call (Y2 := mX6_small) (n2 := 27) (st := [.int (smf (d >>> (3 &&& 31))), .int (smf d), .int 4, .ref 0]) [] [.int (d >>> (6 &&& 31))] ck_6_19 cwX6_small rfl (by decide +kernel) rfl (fun _ => rfl) (fun h => absurd rfl h) (Nat.le_of_ble_eq_true rfl) (Or.inl rfl) (fun _ _ _ h => h) (s_X6_small l A4 G (d >>> (6 &&& 31))) (fun v M2 hp21 => ?_)
            obtain ⟨rfl, rfl⟩ := hp21
            show Go l ro0 mX6_fixed 27 (A4, G, PF) 257 [.int w, .int c, .int d, .ref 0, .int x, .int y, .int z, .int e, .int f, .int u, .null] [.int (smf (d >>> (6 &&& 31))), .int (smf (d >>> (3 &&& 31))), .int (smf d), .int 4, .ref 0] 27 _
            refine go_blk (pc2 := 260) (L2 := [.int w, .int c, .int d, .ref 0, .int x, .int y, .int z, .int e, .int f, .int u, .null]) (st2 := [.int 0, .int f, .int (smf (d >>> (6 &&& 31))), .int (smf (d >>> (3 &&& 31))), .int (smf d), .int 4, .ref 0]) (M2 := (A4, G, PF)) (hs2 := []) (C := True) [(.iload 8, 0, 0), (.iconst 0, 0, 0)] [] (by decide +kernel) rfl trivial ?_
            refine go_call (Y2 := mX5_linear) (n2 := 27) (st := []) [.ref 0] [.int 4, .int (smf d), .int (smf (d >>> (3 &&& 31))), .int (smf (d >>> (6 &&& 31))), .int f, .int 0] ck_6_23 cwX5_linear rfl (by decide +kernel) rfl (fun h => absurd h (by decide)) (fun _ => ⟨0, rfl, by decide, rfl⟩) (Nat.le_of_ble_eq_true rfl) (Or.inl rfl) (fun _ _ _ h => h) (have hv : f99 f := ⟨Int32.not_lt.mp (by assumption), by assumption⟩; q_linF l A4 G (kk := 4) (by decide) 0 ⟨smf_f9 _, smf_f9 _, smf_f9 _⟩ (hv) rfl (dm := 15) (dm2 := 31) hA4 (by decide) (by decide)) (fun v M2 hp22 => ?_)
            obtain ⟨rfl, A5, rfl, hA5, r5, t5⟩ := hp22
            show Go l ro0 mX6_fixed 27 (A5, G, PF) 263 [.int w, .int c, .int d, .ref 0, .int x, .int y, .int z, .int e, .int f, .int u, .null] [.int 1] 27 _
            refine go_ifz (cnd := .ne) (off := 5) 268 (by decide +kernel) (by decide) (fun _ => ?_) (fun (h : (1 : Int32) = 0) => absurd h (by decide))
            refine go_blk (pc2 := 274) (L2 := [.int w, .int c, .int d, .ref 0, .int x, .int y, .int z, .int e, .int f, .int u, .int 0]) (st2 := [.int 3, .int 0]) (M2 := (A5, G, PF)) (hs2 := []) (C := True) [(.iconst 0, 0, 0), (.istore 10, 0, 0), (.iload 10, 0, 0), (.iconst 3, 0, 0)] [] (by decide +kernel) rfl trivial ?_
            refine go_cmp (cnd := .ge) (off := 28) 302 (by decide +kernel) (by decide) (fun (h : 3 ≤ (0 : Int32)) => absurd h (by decide)) (fun _ => ?_)
            refine go_blk (pc2 := 284) (L2 := [.int w, .int c, .int d, .ref 0, .int x, .int y, .int z, .int e, .int f, .int u, .int 0]) (st2 := [.int (-1), .int (-1), .int 0, .ref 0]) (M2 := (A5, G, PF)) (hs2 := []) (C := True) [(.aload_n 3, 0, 0), (.iconst 2, 0, 0), (.iload 10, 0, 0), (.imul, 0, 0), (.iconst (-1), 0, 0), (.iconst (-1), 0, 0)] [] (by decide +kernel) rfl trivial ?_
            refine go_call (Y2 := mX5_clause) (n2 := 27) (st := []) [.ref 0] [.int 0, .int (-1), .int (-1)] ck_6_27 cwX5_clause rfl (by decide +kernel) rfl (fun h => absurd h (by decide)) (fun _ => ⟨0, rfl, by decide, rfl⟩) (Nat.le_of_ble_eq_true rfl) (Or.inl rfl) (fun _ _ _ h => h) (q_clause l G (lf := fun i => 2 * i) (j := 0) (lv := 0) (hA5.ki (by decide)) (Ext.rf (hA5.ki (by decide)) hA5.2.2.2.2.1 _) (by decide) (by decide) (by decide) (by decide)) (fun v M2 hp23 => ?_)
            obtain ⟨rfl, A6, rfl, hA6⟩ := hp23
            show Go l ro0 mX6_fixed 27 (A6, G, PF) 287 [.int w, .int c, .int d, .ref 0, .int x, .int y, .int z, .int e, .int f, .int u, .int 0] [.int (nI (0 + 0 + 1))] 27 _
            refine go_blk (pc2 := 291) (L2 := [.int w, .int c, .int d, .ref 0, .int x, .int y, .int z, .int e, .int f, .int u, .int 0]) (st2 := [.int 1, .int (nI (0 + 0 + 1))]) (M2 := (A6, G, PF)) (hs2 := []) (C := True) [(.iload 10, 0, 0), (.iconst 1, 0, 0), (.iadd, 0, 0)] [] (by decide +kernel) rfl trivial ?_
            refine go_cmp (cnd := .eq) (off := 5) 296 (by decide +kernel) (by decide) (fun _ => ?_) (fun (h : ¬ (nI (0 + 0 + 1)) = 1) => absurd h (fun zz => zz ((nx_eq (a := (0 + 0 + 1)) (b := 1) rfl rfl (by omega) (by omega)).mpr (by omega))))
            refine go_blk (pc2 := 299) (L2 := [.int w, .int c, .int d, .ref 0, .int x, .int y, .int z, .int e, .int f, .int u, .int 1]) (st2 := []) (M2 := (A6, G, PF)) (hs2 := []) (C := True) [(.iinc 10 1, 0, 0)] [] (by decide +kernel) rfl trivial ?_
            refine go_goto (off := -28) 271 (by decide +kernel) (by decide) ?_
            refine go_blk (pc2 := 274) (L2 := [.int w, .int c, .int d, .ref 0, .int x, .int y, .int z, .int e, .int f, .int u, .int 1]) (st2 := [.int 3, .int 1]) (M2 := (A6, G, PF)) (hs2 := []) (C := True) [(.iload 10, 0, 0), (.iconst 3, 0, 0)] [] (by decide +kernel) rfl trivial ?_
            refine go_cmp (cnd := .ge) (off := 28) 302 (by decide +kernel) (by decide) (fun (h : 3 ≤ (1 : Int32)) => absurd h (by decide)) (fun _ => ?_)
            refine go_blk (pc2 := 284) (L2 := [.int w, .int c, .int d, .ref 0, .int x, .int y, .int z, .int e, .int f, .int u, .int 1]) (st2 := [.int (-1), .int (-1), .int 2, .ref 0]) (M2 := (A6, G, PF)) (hs2 := []) (C := True) [(.aload_n 3, 0, 0), (.iconst 2, 0, 0), (.iload 10, 0, 0), (.imul, 0, 0), (.iconst (-1), 0, 0), (.iconst (-1), 0, 0)] [] (by decide +kernel) rfl trivial ?_
            refine go_call (Y2 := mX5_clause) (n2 := 27) (st := []) [.ref 0] [.int 2, .int (-1), .int (-1)] ck_6_27 cwX5_clause rfl (by decide +kernel) rfl (fun h => absurd h (by decide)) (fun _ => ⟨0, rfl, by decide, rfl⟩) (Nat.le_of_ble_eq_true rfl) (Or.inl rfl) (fun _ _ _ h => h) (q_clause l G (lf := fun i => 2 * i) (j := 1) (lv := 0) (hA5.ki (by decide)) hA6 (by decide) (by decide) (by decide) (by decide)) (fun v M2 hp24 => ?_)
            obtain ⟨rfl, A7, rfl, hA7⟩ := hp24
            show Go l ro0 mX6_fixed 27 (A7, G, PF) 287 [.int w, .int c, .int d, .ref 0, .int x, .int y, .int z, .int e, .int f, .int u, .int 1] [.int (nI (0 + 1 + 1))] 27 _
            refine go_blk (pc2 := 291) (L2 := [.int w, .int c, .int d, .ref 0, .int x, .int y, .int z, .int e, .int f, .int u, .int 1]) (st2 := [.int 2, .int (nI (0 + 1 + 1))]) (M2 := (A7, G, PF)) (hs2 := []) (C := True) [(.iload 10, 0, 0), (.iconst 1, 0, 0), (.iadd, 0, 0)] [] (by decide +kernel) rfl trivial ?_
            refine go_cmp (cnd := .eq) (off := 5) 296 (by decide +kernel) (by decide) (fun _ => ?_) (fun (h : ¬ (nI (0 + 1 + 1)) = 2) => absurd h (fun zz => zz ((nx_eq (a := (0 + 1 + 1)) (b := 2) rfl rfl (by omega) (by omega)).mpr (by omega))))
            refine go_blk (pc2 := 299) (L2 := [.int w, .int c, .int d, .ref 0, .int x, .int y, .int z, .int e, .int f, .int u, .int 2]) (st2 := []) (M2 := (A7, G, PF)) (hs2 := []) (C := True) [(.iinc 10 1, 0, 0)] [] (by decide +kernel) rfl trivial ?_
            refine go_goto (off := -28) 271 (by decide +kernel) (by decide) ?_
            refine go_blk (pc2 := 274) (L2 := [.int w, .int c, .int d, .ref 0, .int x, .int y, .int z, .int e, .int f, .int u, .int 2]) (st2 := [.int 3, .int 2]) (M2 := (A7, G, PF)) (hs2 := []) (C := True) [(.iload 10, 0, 0), (.iconst 3, 0, 0)] [] (by decide +kernel) rfl trivial ?_
            refine go_cmp (cnd := .ge) (off := 28) 302 (by decide +kernel) (by decide) (fun (h : 3 ≤ (2 : Int32)) => absurd h (by decide)) (fun _ => ?_)
            refine go_blk (pc2 := 284) (L2 := [.int w, .int c, .int d, .ref 0, .int x, .int y, .int z, .int e, .int f, .int u, .int 2]) (st2 := [.int (-1), .int (-1), .int 4, .ref 0]) (M2 := (A7, G, PF)) (hs2 := []) (C := True) [(.aload_n 3, 0, 0), (.iconst 2, 0, 0), (.iload 10, 0, 0), (.imul, 0, 0), (.iconst (-1), 0, 0), (.iconst (-1), 0, 0)] [] (by decide +kernel) rfl trivial ?_
            refine go_call (Y2 := mX5_clause) (n2 := 27) (st := []) [.ref 0] [.int 4, .int (-1), .int (-1)] ck_6_27 cwX5_clause rfl (by decide +kernel) rfl (fun h => absurd h (by decide)) (fun _ => ⟨0, rfl, by decide, rfl⟩) (Nat.le_of_ble_eq_true rfl) (Or.inl rfl) (fun _ _ _ h => h) (q_clause l G (lf := fun i => 2 * i) (j := 2) (lv := 0) (hA5.ki (by decide)) hA7 (by decide) (by decide) (by decide) (by decide)) (fun v M2 hp25 => ?_)
            obtain ⟨rfl, A8, rfl, hA8⟩ := hp25
            show Go l ro0 mX6_fixed 27 (A8, G, PF) 287 [.int w, .int c, .int d, .ref 0, .int x, .int y, .int z, .int e, .int f, .int u, .int 2] [.int (nI (0 + 2 + 1))] 27 _
            refine go_blk (pc2 := 291) (L2 := [.int w, .int c, .int d, .ref 0, .int x, .int y, .int z, .int e, .int f, .int u, .int 2]) (st2 := [.int 3, .int (nI (0 + 2 + 1))]) (M2 := (A8, G, PF)) (hs2 := []) (C := True) [(.iload 10, 0, 0), (.iconst 1, 0, 0), (.iadd, 0, 0)] [] (by decide +kernel) rfl trivial ?_
            refine go_cmp (cnd := .eq) (off := 5) 296 (by decide +kernel) (by decide) (fun _ => ?_) (fun (h : ¬ (nI (0 + 2 + 1)) = 3) => absurd h (fun zz => zz ((nx_eq (a := (0 + 2 + 1)) (b := 3) rfl rfl (by omega) (by omega)).mpr (by omega))))
            refine go_blk (pc2 := 299) (L2 := [.int w, .int c, .int d, .ref 0, .int x, .int y, .int z, .int e, .int f, .int u, .int 3]) (st2 := []) (M2 := (A8, G, PF)) (hs2 := []) (C := True) [(.iinc 10 1, 0, 0)] [] (by decide +kernel) rfl trivial ?_
            refine go_goto (off := -28) 271 (by decide +kernel) (by decide) ?_
            refine go_blk (pc2 := 274) (L2 := [.int w, .int c, .int d, .ref 0, .int x, .int y, .int z, .int e, .int f, .int u, .int 3]) (st2 := [.int 3, .int 3]) (M2 := (A8, G, PF)) (hs2 := []) (C := True) [(.iload 10, 0, 0), (.iconst 3, 0, 0)] [] (by decide +kernel) rfl trivial ?_
            refine go_cmp (cnd := .ge) (off := 28) 302 (by decide +kernel) (by decide) (fun _ => ?_) (fun (h : ¬ 3 ≤ (3 : Int32)) => absurd h (by decide))
            refine go_blk (pc2 := 308) (L2 := [.int w, .int c, .int d, .ref 0, .int x, .int y, .int z, .int e, .int f, .int u, .int 3]) (st2 := [.int ((c >>> (11 &&& 31)) &&& 1)]) (M2 := (A8, G, PF)) (hs2 := []) (C := True) [(.iload_n 1, 0, 0), (.bipush 11, 0, 0), (.ishr, 0, 0), (.iconst 1, 0, 0), (.iand, 0, 0)] [] (by decide +kernel) rfl trivial ?_
            refine go_ifz (cnd := .eq) (off := 18) 326 (by decide +kernel) (by decide) (fun _ => ?_) (fun (h : ¬ ((c >>> (11 &&& 31)) &&& 1) = 0) => absurd h (fun zz => zz (by assumption)))
            refine go_blk (pc2 := 330) (L2 := [.int w, .int c, .int d, .ref 0, .int x, .int y, .int z, .int e, .int f, .int u, .int 3]) (st2 := [.int u, .int e]) (M2 := (A8, G, PF)) (hs2 := []) (C := True) [(.iload 7, 0, 0), (.iload 9, 0, 0)] [] (by decide +kernel) rfl trivial ?_
            refine go_cmp (cnd := .gt) (off := 7) 337 (by decide +kernel) (by decide) (fun (c26 : u < e) => ?_) (fun (c26 : ¬ u < e) => ?_)
            · skip
              refine go_blk (pc2 := 341) (L2 := [.int w, .int c, .int d, .ref 0, .int x, .int y, .int z, .int e, .int f, .int u, .int 0]) (st2 := [.ref 0]) (M2 := (A8, G, PF)) (hs2 := []) (C := True) [(.iconst 0, 0, 0), (.istore 10, 0, 0), (.aload_n 3, 0, 0)] [] (by decide +kernel) rfl trivial ?_
              refine go_call (Y2 := mX5_worlds) (n2 := 27) (st := []) [.ref 0] [] ck_6_67 cwX5_worlds rfl (by decide +kernel) rfl (fun h => absurd h (by decide)) (fun _ => ⟨0, rfl, by decide, rfl⟩) (Nat.le_of_ble_eq_true rfl) (Or.inl rfl) (fun _ _ _ h => h) (have hub : u.toInt.natAbs ≤ 99 := f99_I ⟨Int32.not_lt.mp (by assumption), Int32.not_lt.mp (by assumption)⟩; have heb : e.toInt.natAbs ≤ 432 := (by rw [ee]; exact (form_I ⟨smf_f9 _, smf_f9 _, smf_f9 _⟩ hb).2); q_worlds_f l G (th := False) (s0 := 23) hA5 hA8 (fxa_of r1 r2 r3 r4 r5 t1 t2 t3 t4 t5 ee.symm ef.symm hb (eu_d heb hub).2 (Or.inl ⟨rfl, iff_of_false (fun z => z) (th_4 heb hub (by assumption))⟩)) (Or.inr ⟨fun z => z, rfl⟩)) (fun v M2 hp27 => ?_)
              obtain ⟨rfl, B, cnt, rfl, hF⟩ := hp27
              show Go l ro0 mX6_fixed 27 (B, G, PF) 344 [.int w, .int c, .int d, .ref 0, .int x, .int y, .int z, .int e, .int f, .int u, .int 0] [.int 1] 27 _
              refine go_blk (pc2 := 345) (L2 := [.int w, .int c, .int d, .ref 0, .int x, .int y, .int z, .int e, .int f, .int u, .int 0]) (st2 := [.int 1, .int 1]) (M2 := (B, G, PF)) (hs2 := []) (C := True) [(.iconst 1, 0, 0)] [] (by decide +kernel) rfl trivial ?_
              refine go_cmp (cnd := .ne) (off := 66) 411 (by decide +kernel) (by decide) (fun (h : ¬ (1 : Int32) = 1) => absurd h (by decide)) (fun _ => ?_)
              refine go_blk (pc2 := 351) (L2 := [.int w, .int c, .int d, .ref 0, .int x, .int y, .int z, .int e, .int f, .int u, .int 0]) (st2 := [.int 0, .ref 0]) (M2 := (B, G, PF)) (hs2 := []) (C := True) [(.aload_n 3, 0, 0), (.iload 10, 0, 0)] [] (by decide +kernel) rfl trivial ?_
              refine go_ifz (cnd := .eq) (off := 8) 359 (by decide +kernel) (by decide) (fun _ => ?_) (fun (h : ¬ (0 : Int32) = 0) => absurd h (by decide))
              refine go_blk (pc2 := 361) (L2 := [.int w, .int c, .int d, .ref 0, .int x, .int y, .int z, .int e, .int f, .int u, .int 0]) (st2 := [.int 23, .ref 0]) (M2 := (B, G, PF)) (hs2 := []) (C := True) [(.bipush 23, 0, 0)] [] (by decide +kernel) rfl trivial ?_
              refine go_call (Y2 := mX5_world) (n2 := 27) (st := []) [.ref 0] [.int 23] ck_6_31 cwX5_world rfl (by decide +kernel) rfl (fun h => absurd h (by decide)) (fun _ => ⟨0, rfl, by decide, rfl⟩) (Nat.le_of_ble_eq_true rfl) (Or.inl rfl) (fun _ _ _ h => h) (q_world l G m5 hF.1 (s := 23) (by decide)) (fun v M2 hp28 => ?_)
              obtain ⟨rfl, rfl⟩ := hp28
              rw [bi_t ((hF.wd (Or.inr ⟨fun z => z, rfl⟩) 23 (by decide)).mpr rfl)]
              show Go l ro0 mX6_fixed 27 (B, G, PF) 364 [.int w, .int c, .int d, .ref 0, .int x, .int y, .int z, .int e, .int f, .int u, .int 0] [.int 1] 27 _
              refine go_ifz (cnd := .eq) (off := 47) 411 (by decide +kernel) (by decide) (fun (h : (1 : Int32) = 0) => absurd h (by decide)) (fun _ => ?_)
              refine go_blk (pc2 := 372) (L2 := [.int w, .int c, .int d, .ref 0, .int x, .int y, .int z, .int e, .int f, .int u, .int 0]) (st2 := [.int 1, .int (-2), .int 3, .ref 0]) (M2 := (B, G, PF)) (hs2 := []) (C := True) [(.aload_n 3, 0, 0), (.iconst 3, 0, 0), (.bipush (-2), 0, 0), (.iconst 1, 0, 0)] [] (by decide +kernel) rfl trivial ?_
              refine go_call (Y2 := mX5_most) (n2 := 27) (st := []) [.ref 0] [.int 3, .int (-2), .int 1] ck_6_52 cwX5_most rfl (by decide +kernel) rfl (fun h => absurd h (by decide)) (fun _ => ⟨0, rfl, by decide, rfl⟩) (Nat.le_of_ble_eq_true rfl) (Or.inl rfl) (fun _ _ _ h => h) (q_most_f l G hF (Or.inr ⟨fun z => z, rfl⟩) ⟨⟨by decide, by decide⟩, ⟨by decide, by decide⟩, ⟨by decide, by decide⟩⟩) (fun v M2 hp29 => ?_)
              obtain ⟨rfl, B2, G2, rfl, hE2, e6, e7⟩ := hp29
              show Go l ro0 mX6_fixed 27 (B2, G2, PF) 375 [.int w, .int c, .int d, .ref 0, .int x, .int y, .int z, .int e, .int f, .int u, .int 0] [.int 2] 27 _
              refine go_blk (pc2 := 376) (L2 := [.int w, .int c, .int d, .ref 0, .int x, .int y, .int z, .int e, .int f, .int u, .int 0]) (st2 := [.int 2, .int 2]) (M2 := (B2, G2, PF)) (hs2 := []) (C := True) [(.iconst 2, 0, 0)] [] (by decide +kernel) rfl trivial ?_
              refine go_cmp (cnd := .ne) (off := 35) 411 (by decide +kernel) (by decide) (fun (h : ¬ (2 : Int32) = 2) => absurd h (by decide)) (fun _ => ?_)
              refine go_blk (pc2 := 381) (L2 := [.int w, .int c, .int d, .ref 0, .int x, .int y, .int z, .int e, .int f, .int u, .int 0]) (st2 := [.int 0, .ref 0]) (M2 := (B2, G2, PF)) (hs2 := []) (C := True) [(.aload_n 3, 0, 0), (.iconst 0, 0, 0)] [] (by decide +kernel) rfl trivial ?_
              refine go_call (Y2 := mX5_top) (n2 := 27) (st := []) [.ref 0] [.int 0] ck_6_55 cwX5_top rfl (by decide +kernel) rfl (fun h => absurd h (by decide)) (fun _ => ⟨0, rfl, by decide, rfl⟩) (Nat.le_of_ble_eq_true rfl) (Or.inl rfl) (fun _ _ _ h => h) (q_top0 l B2 G2) (fun v M2 hp30 => ?_)
              obtain ⟨rfl, rfl⟩ := hp30
              rw [e6]
              show Go l ro0 mX6_fixed 27 (B2, G2, PF) 384 [.int w, .int c, .int d, .ref 0, .int x, .int y, .int z, .int e, .int f, .int u, .int 0] [.long (Int64.ofInt (vP 3 (-2) 1 x y z))] 27 _
              refine go_blk (pc2 := 398) (L2 := [.int w, .int c, .int d, .ref 0, .int x, .int y, .int z, .int e, .int f, .int u, .int 0]) (st2 := [.int (lg_cmp (Int64.ofInt (vP 3 (-2) 1 x y z)) ((((3 * x) - (2 * y)) + z).toInt64))]) (M2 := (B2, G2, PF)) (hs2 := []) (C := True) [(.iconst 3, 0, 0), (.iload 4, 0, 0), (.imul, 0, 0), (.iconst 2, 0, 0), (.iload 5, 0, 0), (.imul, 0, 0), (.isub, 0, 0), (.iload 6, 0, 0), (.iadd, 0, 0), (.i2l, 0, 0), (.lcmp, 0, 0)] [] (by decide +kernel) rfl trivial ?_
              refine go_ifz (cnd := .ne) (off := 13) 411 (by decide +kernel) (by decide) (fun (h : ¬ (lg_cmp (Int64.ofInt (vP 3 (-2) 1 x y z)) ((((3 * x) - (2 * y)) + z).toInt64)) = 0) => absurd h (fun zz => zz (lg_eq.mpr (v_321 hb)))) (fun _ => ?_)
              refine go_blk (pc2 := 403) (L2 := [.int w, .int c, .int d, .ref 0, .int x, .int y, .int z, .int e, .int f, .int u, .int 0]) (st2 := [.int 1, .ref 0]) (M2 := (B2, G2, PF)) (hs2 := []) (C := True) [(.aload_n 3, 0, 0), (.iconst 1, 0, 0)] [] (by decide +kernel) rfl trivial ?_
              refine go_call (Y2 := mX5_top) (n2 := 27) (st := []) [.ref 0] [.int 1] ck_6_55 cwX5_top rfl (by decide +kernel) rfl (fun h => absurd h (by decide)) (fun _ => ⟨0, rfl, by decide, rfl⟩) (Nat.le_of_ble_eq_true rfl) (Or.inl rfl) (fun _ _ _ h => h) (q_top1 l B2 G2) (fun v M2 hp31 => ?_)
              obtain ⟨rfl, rfl⟩ := hp31
              rw [e7]
              show Go l ro0 mX6_fixed 27 (B2, G2, PF) 406 [.int w, .int c, .int d, .ref 0, .int x, .int y, .int z, .int e, .int f, .int u, .int 0] [.long 1] 27 _
              refine go_blk (pc2 := 408) (L2 := [.int w, .int c, .int d, .ref 0, .int x, .int y, .int z, .int e, .int f, .int u, .int 0]) (st2 := [.int (lg_cmp 1 1)]) (M2 := (B2, G2, PF)) (hs2 := []) (C := True) [(.lconst 1, 0, 0), (.lcmp, 0, 0)] [] (by decide +kernel) rfl trivial ?_
              refine go_ifz (cnd := .eq) (off := 5) 413 (by decide +kernel) (by decide) (fun _ => ?_) (fun (h : ¬ (lg_cmp 1 1) = 0) => absurd h (by decide))
              refine go_blk (pc2 := 425) (L2 := [.int w, .int c, .int d, .ref 0, .int x, .int y, .int z, .int e, .int f, .int u, .int 0]) (st2 := [.int ((x + y) + z), .int 1, .int 1, .int 1, .ref 0]) (M2 := (B2, G2, PF)) (hs2 := []) (C := True) [(.aload_n 3, 0, 0), (.iconst 1, 0, 0), (.iconst 1, 0, 0), (.iconst 1, 0, 0), (.iload 4, 0, 0), (.iload 5, 0, 0), (.iadd, 0, 0), (.iload 6, 0, 0), (.iadd, 0, 0)] [] (by decide +kernel) rfl trivial ?_
              refine go_call (Y2 := mX5_bounded) (n2 := 27) (st := []) [.ref 0] [.int 1, .int 1, .int 1, .int ((x + y) + z)] ck_6_59 cwX5_bounded rfl (by decide +kernel) rfl (fun h => absurd h (by decide)) (fun _ => ⟨0, rfl, by decide, rfl⟩) (Nat.le_of_ble_eq_true rfl) (Or.inl rfl) (fun _ _ _ h => h) (q_bnd l G2 hF.1 hF.2.1 hE2 no_l (by decide) f1_ok (bd_f hF.bx).1) (fun v M2 hp32 => ?_)
              obtain ⟨B3, G3, ttB3, rfl, hE3, hPB3, rfl⟩ := hp32
              rw [Kj0] at hPB3
              rw [bi_t ((bd_1 hF (Or.inr ⟨fun z => z, rfl⟩) hPB3).1)]
              show Go l ro0 mX6_fixed 27 (B3, G3, PF) 428 [.int w, .int c, .int d, .ref 0, .int x, .int y, .int z, .int e, .int f, .int u, .int 0] [.int 1] 27 _
              refine go_ifz (cnd := .eq) (off := 27) 455 (by decide +kernel) (by decide) (fun (h : (1 : Int32) = 0) => absurd h (by decide)) (fun _ => ?_)
              refine go_blk (pc2 := 445) (L2 := [.int w, .int c, .int d, .ref 0, .int x, .int y, .int z, .int e, .int f, .int u, .int 0]) (st2 := [.int (((x + y) + z) - 1), .int 1, .int 1, .int 1, .ref 0]) (M2 := (B3, G3, PF)) (hs2 := []) (C := True) [(.aload_n 3, 0, 0), (.iconst 1, 0, 0), (.iconst 1, 0, 0), (.iconst 1, 0, 0), (.iload 4, 0, 0), (.iload 5, 0, 0), (.iadd, 0, 0), (.iload 6, 0, 0), (.iadd, 0, 0), (.iconst 1, 0, 0), (.isub, 0, 0)] [] (by decide +kernel) rfl trivial ?_
              refine go_call (Y2 := mX5_bounded) (n2 := 27) (st := []) [.ref 0] [.int 1, .int 1, .int 1, .int (((x + y) + z) - 1)] ck_6_59 cwX5_bounded rfl (by decide +kernel) rfl (fun h => absurd h (by decide)) (fun _ => ⟨0, rfl, by decide, rfl⟩) (Nat.le_of_ble_eq_true rfl) (Or.inl rfl) (fun _ _ _ h => h) (q_bnd l G3 hF.1 hF.2.1 hE3 no_l (by decide) f1_ok (bd_f hF.bx).2) (fun v M2 hp33 => ?_)
              obtain ⟨B4, G4, ttB4, rfl, hE4, hPB4, rfl⟩ := hp33
              rw [Kj0] at hPB4
              rw [bi_f ((bd_1 hF (Or.inr ⟨fun z => z, rfl⟩) hPB4).2)]
              show Go l ro0 mX6_fixed 27 (B4, G4, PF) 448 [.int w, .int c, .int d, .ref 0, .int x, .int y, .int z, .int e, .int f, .int u, .int 0] [.int 0] 27 _
              refine go_ifz (cnd := .ne) (off := 7) 455 (by decide +kernel) (by decide) (fun (h : ¬ (0 : Int32) = 0) => absurd h (by decide)) (fun _ => ?_)
              refine go_blk (pc2 := 452) (L2 := [.int w, .int c, .int d, .ref 0, .int x, .int y, .int z, .int e, .int f, .int u, .int 0]) (st2 := [.int 1]) (M2 := (B4, G4, PF)) (hs2 := []) (C := True) [(.iconst 1, 0, 0)] [] (by decide +kernel) rfl trivial ?_
              refine go_goto (off := 4) 456 (by decide +kernel) (by decide) ?_
              exact go_retz (by decide +kernel) rfl (Or.inr rfl) (rfl)
            · skip
              refine go_blk (pc2 := 334) (L2 := [.int w, .int c, .int d, .ref 0, .int x, .int y, .int z, .int e, .int f, .int u, .int 3]) (st2 := [.int 1]) (M2 := (A8, G, PF)) (hs2 := []) (C := True) [(.iconst 1, 0, 0)] [] (by decide +kernel) rfl trivial ?_
              refine go_goto (off := 4) 338 (by decide +kernel) (by decide) ?_
              refine go_blk (pc2 := 341) (L2 := [.int w, .int c, .int d, .ref 0, .int x, .int y, .int z, .int e, .int f, .int u, .int 1]) (st2 := [.ref 0]) (M2 := (A8, G, PF)) (hs2 := []) (C := True) [(.istore 10, 0, 0), (.aload_n 3, 0, 0)] [] (by decide +kernel) rfl trivial ?_
              refine go_call (Y2 := mX5_worlds) (n2 := 27) (st := []) [.ref 0] [] ck_6_67 cwX5_worlds rfl (by decide +kernel) rfl (fun h => absurd h (by decide)) (fun _ => ⟨0, rfl, by decide, rfl⟩) (Nat.le_of_ble_eq_true rfl) (Or.inl rfl) (fun _ _ _ h => h) (have hub : u.toInt.natAbs ≤ 99 := f99_I ⟨Int32.not_lt.mp (by assumption), Int32.not_lt.mp (by assumption)⟩; have heb : e.toInt.natAbs ≤ 432 := (by rw [ee]; exact (form_I ⟨smf_f9 _, smf_f9 _, smf_f9 _⟩ hb).2); q_worlds_f l G (th := True) (s0 := 31) hA5 hA8 (fxa_of r1 r2 r3 r4 r5 t1 t2 t3 t4 t5 ee.symm ef.symm hb (eu_d heb hub).2 (Or.inl ⟨rfl, iff_of_true trivial (th_3 heb hub (by assumption))⟩)) (Or.inl ⟨trivial, rfl⟩)) (fun v M2 hp34 => ?_)
              obtain ⟨rfl, B, cnt, rfl, hF⟩ := hp34
              show Go l ro0 mX6_fixed 27 (B, G, PF) 344 [.int w, .int c, .int d, .ref 0, .int x, .int y, .int z, .int e, .int f, .int u, .int 1] [.int 1] 27 _
              refine go_blk (pc2 := 345) (L2 := [.int w, .int c, .int d, .ref 0, .int x, .int y, .int z, .int e, .int f, .int u, .int 1]) (st2 := [.int 1, .int 1]) (M2 := (B, G, PF)) (hs2 := []) (C := True) [(.iconst 1, 0, 0)] [] (by decide +kernel) rfl trivial ?_
              refine go_cmp (cnd := .ne) (off := 66) 411 (by decide +kernel) (by decide) (fun (h : ¬ (1 : Int32) = 1) => absurd h (by decide)) (fun _ => ?_)
              refine go_blk (pc2 := 351) (L2 := [.int w, .int c, .int d, .ref 0, .int x, .int y, .int z, .int e, .int f, .int u, .int 1]) (st2 := [.int 1, .ref 0]) (M2 := (B, G, PF)) (hs2 := []) (C := True) [(.aload_n 3, 0, 0), (.iload 10, 0, 0)] [] (by decide +kernel) rfl trivial ?_
              refine go_ifz (cnd := .eq) (off := 8) 359 (by decide +kernel) (by decide) (fun (h : (1 : Int32) = 0) => absurd h (by decide)) (fun _ => ?_)
              refine go_blk (pc2 := 356) (L2 := [.int w, .int c, .int d, .ref 0, .int x, .int y, .int z, .int e, .int f, .int u, .int 1]) (st2 := [.int 31, .ref 0]) (M2 := (B, G, PF)) (hs2 := []) (C := True) [(.bipush 31, 0, 0)] [] (by decide +kernel) rfl trivial ?_
              refine go_goto (off := 5) 361 (by decide +kernel) (by decide) ?_
              refine go_call (Y2 := mX5_world) (n2 := 27) (st := []) [.ref 0] [.int 31] ck_6_31 cwX5_world rfl (by decide +kernel) rfl (fun h => absurd h (by decide)) (fun _ => ⟨0, rfl, by decide, rfl⟩) (Nat.le_of_ble_eq_true rfl) (Or.inl rfl) (fun _ _ _ h => h) (q_world l G m5 hF.1 (s := 31) (by decide)) (fun v M2 hp35 => ?_)
              obtain ⟨rfl, rfl⟩ := hp35
              rw [bi_t ((hF.wd (Or.inl ⟨trivial, rfl⟩) 31 (by decide)).mpr rfl)]
              show Go l ro0 mX6_fixed 27 (B, G, PF) 364 [.int w, .int c, .int d, .ref 0, .int x, .int y, .int z, .int e, .int f, .int u, .int 1] [.int 1] 27 _
              refine go_ifz (cnd := .eq) (off := 47) 411 (by decide +kernel) (by decide) (fun (h : (1 : Int32) = 0) => absurd h (by decide)) (fun _ => ?_)
              refine go_blk (pc2 := 372) (L2 := [.int w, .int c, .int d, .ref 0, .int x, .int y, .int z, .int e, .int f, .int u, .int 1]) (st2 := [.int 1, .int (-2), .int 3, .ref 0]) (M2 := (B, G, PF)) (hs2 := []) (C := True) [(.aload_n 3, 0, 0), (.iconst 3, 0, 0), (.bipush (-2), 0, 0), (.iconst 1, 0, 0)] [] (by decide +kernel) rfl trivial ?_
              refine go_call (Y2 := mX5_most) (n2 := 27) (st := []) [.ref 0] [.int 3, .int (-2), .int 1] ck_6_52 cwX5_most rfl (by decide +kernel) rfl (fun h => absurd h (by decide)) (fun _ => ⟨0, rfl, by decide, rfl⟩) (Nat.le_of_ble_eq_true rfl) (Or.inl rfl) (fun _ _ _ h => h) (q_most_f l G hF (Or.inl ⟨trivial, rfl⟩) ⟨⟨by decide, by decide⟩, ⟨by decide, by decide⟩, ⟨by decide, by decide⟩⟩) (fun v M2 hp36 => ?_)
              obtain ⟨rfl, B2, G2, rfl, hE2, e6, e7⟩ := hp36
              show Go l ro0 mX6_fixed 27 (B2, G2, PF) 375 [.int w, .int c, .int d, .ref 0, .int x, .int y, .int z, .int e, .int f, .int u, .int 1] [.int 2] 27 _
              refine go_blk (pc2 := 376) (L2 := [.int w, .int c, .int d, .ref 0, .int x, .int y, .int z, .int e, .int f, .int u, .int 1]) (st2 := [.int 2, .int 2]) (M2 := (B2, G2, PF)) (hs2 := []) (C := True) [(.iconst 2, 0, 0)] [] (by decide +kernel) rfl trivial ?_
              refine go_cmp (cnd := .ne) (off := 35) 411 (by decide +kernel) (by decide) (fun (h : ¬ (2 : Int32) = 2) => absurd h (by decide)) (fun _ => ?_)
              refine go_blk (pc2 := 381) (L2 := [.int w, .int c, .int d, .ref 0, .int x, .int y, .int z, .int e, .int f, .int u, .int 1]) (st2 := [.int 0, .ref 0]) (M2 := (B2, G2, PF)) (hs2 := []) (C := True) [(.aload_n 3, 0, 0), (.iconst 0, 0, 0)] [] (by decide +kernel) rfl trivial ?_
              refine go_call (Y2 := mX5_top) (n2 := 27) (st := []) [.ref 0] [.int 0] ck_6_55 cwX5_top rfl (by decide +kernel) rfl (fun h => absurd h (by decide)) (fun _ => ⟨0, rfl, by decide, rfl⟩) (Nat.le_of_ble_eq_true rfl) (Or.inl rfl) (fun _ _ _ h => h) (q_top0 l B2 G2) (fun v M2 hp37 => ?_)
              obtain ⟨rfl, rfl⟩ := hp37
              rw [e6]
              show Go l ro0 mX6_fixed 27 (B2, G2, PF) 384 [.int w, .int c, .int d, .ref 0, .int x, .int y, .int z, .int e, .int f, .int u, .int 1] [.long (Int64.ofInt (vP 3 (-2) 1 x y z))] 27 _
              refine go_blk (pc2 := 398) (L2 := [.int w, .int c, .int d, .ref 0, .int x, .int y, .int z, .int e, .int f, .int u, .int 1]) (st2 := [.int (lg_cmp (Int64.ofInt (vP 3 (-2) 1 x y z)) ((((3 * x) - (2 * y)) + z).toInt64))]) (M2 := (B2, G2, PF)) (hs2 := []) (C := True) [(.iconst 3, 0, 0), (.iload 4, 0, 0), (.imul, 0, 0), (.iconst 2, 0, 0), (.iload 5, 0, 0), (.imul, 0, 0), (.isub, 0, 0), (.iload 6, 0, 0), (.iadd, 0, 0), (.i2l, 0, 0), (.lcmp, 0, 0)] [] (by decide +kernel) rfl trivial ?_
              refine go_ifz (cnd := .ne) (off := 13) 411 (by decide +kernel) (by decide) (fun (h : ¬ (lg_cmp (Int64.ofInt (vP 3 (-2) 1 x y z)) ((((3 * x) - (2 * y)) + z).toInt64)) = 0) => absurd h (fun zz => zz (lg_eq.mpr (v_321 hb)))) (fun _ => ?_)
              refine go_blk (pc2 := 403) (L2 := [.int w, .int c, .int d, .ref 0, .int x, .int y, .int z, .int e, .int f, .int u, .int 1]) (st2 := [.int 1, .ref 0]) (M2 := (B2, G2, PF)) (hs2 := []) (C := True) [(.aload_n 3, 0, 0), (.iconst 1, 0, 0)] [] (by decide +kernel) rfl trivial ?_
              refine go_call (Y2 := mX5_top) (n2 := 27) (st := []) [.ref 0] [.int 1] ck_6_55 cwX5_top rfl (by decide +kernel) rfl (fun h => absurd h (by decide)) (fun _ => ⟨0, rfl, by decide, rfl⟩) (Nat.le_of_ble_eq_true rfl) (Or.inl rfl) (fun _ _ _ h => h) (q_top1 l B2 G2) (fun v M2 hp38 => ?_)
              obtain ⟨rfl, rfl⟩ := hp38
              rw [e7]
              show Go l ro0 mX6_fixed 27 (B2, G2, PF) 406 [.int w, .int c, .int d, .ref 0, .int x, .int y, .int z, .int e, .int f, .int u, .int 1] [.long 1] 27 _
              refine go_blk (pc2 := 408) (L2 := [.int w, .int c, .int d, .ref 0, .int x, .int y, .int z, .int e, .int f, .int u, .int 1]) (st2 := [.int (lg_cmp 1 1)]) (M2 := (B2, G2, PF)) (hs2 := []) (C := True) [(.lconst 1, 0, 0), (.lcmp, 0, 0)] [] (by decide +kernel) rfl trivial ?_
              refine go_ifz (cnd := .eq) (off := 5) 413 (by decide +kernel) (by decide) (fun _ => ?_) (fun (h : ¬ (lg_cmp 1 1) = 0) => absurd h (by decide))
              refine go_blk (pc2 := 425) (L2 := [.int w, .int c, .int d, .ref 0, .int x, .int y, .int z, .int e, .int f, .int u, .int 1]) (st2 := [.int ((x + y) + z), .int 1, .int 1, .int 1, .ref 0]) (M2 := (B2, G2, PF)) (hs2 := []) (C := True) [(.aload_n 3, 0, 0), (.iconst 1, 0, 0), (.iconst 1, 0, 0), (.iconst 1, 0, 0), (.iload 4, 0, 0), (.iload 5, 0, 0), (.iadd, 0, 0), (.iload 6, 0, 0), (.iadd, 0, 0)] [] (by decide +kernel) rfl trivial ?_
              refine go_call (Y2 := mX5_bounded) (n2 := 27) (st := []) [.ref 0] [.int 1, .int 1, .int 1, .int ((x + y) + z)] ck_6_59 cwX5_bounded rfl (by decide +kernel) rfl (fun h => absurd h (by decide)) (fun _ => ⟨0, rfl, by decide, rfl⟩) (Nat.le_of_ble_eq_true rfl) (Or.inl rfl) (fun _ _ _ h => h) (q_bnd l G2 hF.1 hF.2.1 hE2 no_l (by decide) f1_ok (bd_f hF.bx).1) (fun v M2 hp39 => ?_)
              obtain ⟨B3, G3, ttB3, rfl, hE3, hPB3, rfl⟩ := hp39
              rw [Kj0] at hPB3
              rw [bi_t ((bd_1 hF (Or.inl ⟨trivial, rfl⟩) hPB3).1)]
              show Go l ro0 mX6_fixed 27 (B3, G3, PF) 428 [.int w, .int c, .int d, .ref 0, .int x, .int y, .int z, .int e, .int f, .int u, .int 1] [.int 1] 27 _
              refine go_ifz (cnd := .eq) (off := 27) 455 (by decide +kernel) (by decide) (fun (h : (1 : Int32) = 0) => absurd h (by decide)) (fun _ => ?_)
              refine go_blk (pc2 := 445) (L2 := [.int w, .int c, .int d, .ref 0, .int x, .int y, .int z, .int e, .int f, .int u, .int 1]) (st2 := [.int (((x + y) + z) - 1), .int 1, .int 1, .int 1, .ref 0]) (M2 := (B3, G3, PF)) (hs2 := []) (C := True) [(.aload_n 3, 0, 0), (.iconst 1, 0, 0), (.iconst 1, 0, 0), (.iconst 1, 0, 0), (.iload 4, 0, 0), (.iload 5, 0, 0), (.iadd, 0, 0), (.iload 6, 0, 0), (.iadd, 0, 0), (.iconst 1, 0, 0), (.isub, 0, 0)] [] (by decide +kernel) rfl trivial ?_
              refine go_call (Y2 := mX5_bounded) (n2 := 27) (st := []) [.ref 0] [.int 1, .int 1, .int 1, .int (((x + y) + z) - 1)] ck_6_59 cwX5_bounded rfl (by decide +kernel) rfl (fun h => absurd h (by decide)) (fun _ => ⟨0, rfl, by decide, rfl⟩) (Nat.le_of_ble_eq_true rfl) (Or.inl rfl) (fun _ _ _ h => h) (q_bnd l G3 hF.1 hF.2.1 hE3 no_l (by decide) f1_ok (bd_f hF.bx).2) (fun v M2 hp40 => ?_)
              obtain ⟨B4, G4, ttB4, rfl, hE4, hPB4, rfl⟩ := hp40
              rw [Kj0] at hPB4
              rw [bi_f ((bd_1 hF (Or.inl ⟨trivial, rfl⟩) hPB4).2)]
              show Go l ro0 mX6_fixed 27 (B4, G4, PF) 448 [.int w, .int c, .int d, .ref 0, .int x, .int y, .int z, .int e, .int f, .int u, .int 1] [.int 0] 27 _
              refine go_ifz (cnd := .ne) (off := 7) 455 (by decide +kernel) (by decide) (fun (h : ¬ (0 : Int32) = 0) => absurd h (by decide)) (fun _ => ?_)
              refine go_blk (pc2 := 452) (L2 := [.int w, .int c, .int d, .ref 0, .int x, .int y, .int z, .int e, .int f, .int u, .int 1]) (st2 := [.int 1]) (M2 := (B4, G4, PF)) (hs2 := []) (C := True) [(.iconst 1, 0, 0)] [] (by decide +kernel) rfl trivial ?_
              refine go_goto (off := 4) 456 (by decide +kernel) (by decide) ?_
              exact go_retz (by decide +kernel) rfl (Or.inr rfl) (rfl)
          · skip
            refine go_blk (pc2 := 228) (L2 := [.int w, .int c, .int d, .ref 0, .int x, .int y, .int z, .int e, .int f, .int u, .null]) (st2 := [.int 1, .int u, .int (smf (c >>> (6 &&& 31))), .int (smf (c >>> (3 &&& 31))), .int (smf c), .int 3, .ref 0]) (M2 := (A3, G, PF)) (hs2 := []) (C := True) [(.iconst 1, 0, 0)] [] (by decide +kernel) rfl trivial ?_
            refine go_goto (off := 4) 232 (by decide +kernel) (by decide) ?_
            refine go_call (Y2 := mX5_linear) (n2 := 27) (st := []) [.ref 0] [.int 3, .int (smf c), .int (smf (c >>> (3 &&& 31))), .int (smf (c >>> (6 &&& 31))), .int u, .int 1] ck_6_23 cwX5_linear rfl (by decide +kernel) rfl (fun h => absurd h (by decide)) (fun _ => ⟨0, rfl, by decide, rfl⟩) (Nat.le_of_ble_eq_true rfl) (Or.inl rfl) (fun _ _ _ h => h) (have hu : f99 u := ⟨Int32.not_lt.mp (by assumption), Int32.not_lt.mp (by assumption)⟩; q_linF l A3 G (kk := 3) (by decide) 1 ⟨smf_f9 _, smf_f9 _, smf_f9 _⟩ (hu) rfl (dm := 7) (dm2 := 15) hA3 (by decide) (by decide)) (fun v M2 hp41 => ?_)
            obtain ⟨rfl, A4, rfl, hA4, r4, t4⟩ := hp41
            show Go l ro0 mX6_fixed 27 (A4, G, PF) 235 [.int w, .int c, .int d, .ref 0, .int x, .int y, .int z, .int e, .int f, .int u, .null] [.int 1] 27 _
            refine go_ifz (cnd := .eq) (off := 31) 266 (by decide +kernel) (by decide) (fun (h : (1 : Int32) = 0) => absurd h (by decide)) (fun _ => ?_)
            refine go_blk (pc2 := 241) (L2 := [.int w, .int c, .int d, .ref 0, .int x, .int y, .int z, .int e, .int f, .int u, .null]) (st2 := [.int d, .int 4, .ref 0]) (M2 := (A4, G, PF)) (hs2 := []) (C := True) [(.aload_n 3, 0, 0), (.iconst 4, 0, 0), (.iload_n 2, 0, 0)] [] (by decide +kernel) rfl trivial ?_
            refine go_call (Y2 := mX6_small) (n2 := 27) (st := [.int 4, .ref 0]) [] [.int d] ck_6_19 cwX6_small rfl (by decide +kernel) rfl (fun _ => rfl) (fun h => absurd rfl h) (Nat.le_of_ble_eq_true rfl) (Or.inl rfl) (fun _ _ _ h => h) (s_X6_small l A4 G d) (fun v M2 hp42 => ?_)
            obtain ⟨rfl, rfl⟩ := hp42
            show Go l ro0 mX6_fixed 27 (A4, G, PF) 244 [.int w, .int c, .int d, .ref 0, .int x, .int y, .int z, .int e, .int f, .int u, .null] [.int (smf d), .int 4, .ref 0] 27 _
            refine go_blk (pc2 := 247) (L2 := [.int w, .int c, .int d, .ref 0, .int x, .int y, .int z, .int e, .int f, .int u, .null]) (st2 := [.int (d >>> (3 &&& 31)), .int (smf d), .int 4, .ref 0]) (M2 := (A4, G, PF)) (hs2 := []) (C := True) [(.iload_n 2, 0, 0), (.iconst 3, 0, 0), (.ishr, 0, 0)] [] (by decide +kernel) rfl trivial ?_
            refine go_call (Y2 := mX6_small) (n2 := 27) (st := [.int (smf d), .int 4, .ref 0]) [] [.int (d >>> (3 &&& 31))] ck_6_19 cwX6_small rfl (by decide +kernel) rfl (fun _ => rfl) (fun h => absurd rfl h) (Nat.le_of_ble_eq_true rfl) (Or.inl rfl) (fun _ _ _ h => h) (s_X6_small l A4 G (d >>> (3 &&& 31))) (fun v M2 hp43 => ?_)
            obtain ⟨rfl, rfl⟩ := hp43
            show Go l ro0 mX6_fixed 27 (A4, G, PF) 250 [.int w, .int c, .int d, .ref 0, .int x, .int y, .int z, .int e, .int f, .int u, .null] [.int (smf (d >>> (3 &&& 31))), .int (smf d), .int 4, .ref 0] 27 _
            refine go_blk (pc2 := 254) (L2 := [.int w, .int c, .int d, .ref 0, .int x, .int y, .int z, .int e, .int f, .int u, .null]) (st2 := [.int (d >>> (6 &&& 31)), .int (smf (d >>> (3 &&& 31))), .int (smf d), .int 4, .ref 0]) (M2 := (A4, G, PF)) (hs2 := []) (C := True) [(.iload_n 2, 0, 0), (.bipush 6, 0, 0), (.ishr, 0, 0)] [] (by decide +kernel) rfl trivial ?_
            refine go_call (Y2 := mX6_small) (n2 := 27) (st := [.int (smf (d >>> (3 &&& 31))), .int (smf d), .int 4, .ref 0]) [] [.int (d >>> (6 &&& 31))] ck_6_19 cwX6_small rfl (by decide +kernel) rfl (fun _ => rfl) (fun h => absurd rfl h) (Nat.le_of_ble_eq_true rfl) (Or.inl rfl) (fun _ _ _ h => h) (s_X6_small l A4 G (d >>> (6 &&& 31))) (fun v M2 hp44 => ?_)
            obtain ⟨rfl, rfl⟩ := hp44
            show Go l ro0 mX6_fixed 27 (A4, G, PF) 257 [.int w, .int c, .int d, .ref 0, .int x, .int y, .int z, .int e, .int f, .int u, .null] [.int (smf (d >>> (6 &&& 31))), .int (smf (d >>> (3 &&& 31))), .int (smf d), .int 4, .ref 0] 27 _
            refine go_blk (pc2 := 260) (L2 := [.int w, .int c, .int d, .ref 0, .int x, .int y, .int z, .int e, .int f, .int u, .null]) (st2 := [.int 0, .int f, .int (smf (d >>> (6 &&& 31))), .int (smf (d >>> (3 &&& 31))), .int (smf d), .int 4, .ref 0]) (M2 := (A4, G, PF)) (hs2 := []) (C := True) [(.iload 8, 0, 0), (.iconst 0, 0, 0)] [] (by decide +kernel) rfl trivial ?_
            refine go_call (Y2 := mX5_linear) (n2 := 27) (st := []) [.ref 0] [.int 4, .int (smf d), .int (smf (d >>> (3 &&& 31))), .int (smf (d >>> (6 &&& 31))), .int f, .int 0] ck_6_23 cwX5_linear rfl (by decide +kernel) rfl (fun h => absurd h (by decide)) (fun _ => ⟨0, rfl, by decide, rfl⟩) (Nat.le_of_ble_eq_true rfl) (Or.inl rfl) (fun _ _ _ h => h) (have hv : f99 f := ⟨Int32.not_lt.mp (by assumption), by assumption⟩; q_linF l A4 G (kk := 4) (by decide) 0 ⟨smf_f9 _, smf_f9 _, smf_f9 _⟩ (hv) rfl (dm := 15) (dm2 := 31) hA4 (by decide) (by decide)) (fun v M2 hp45 => ?_)
            obtain ⟨rfl, A5, rfl, hA5, r5, t5⟩ := hp45
            show Go l ro0 mX6_fixed 27 (A5, G, PF) 263 [.int w, .int c, .int d, .ref 0, .int x, .int y, .int z, .int e, .int f, .int u, .null] [.int 1] 27 _
            refine go_ifz (cnd := .ne) (off := 5) 268 (by decide +kernel) (by decide) (fun _ => ?_) (fun (h : (1 : Int32) = 0) => absurd h (by decide))
            refine go_blk (pc2 := 274) (L2 := [.int w, .int c, .int d, .ref 0, .int x, .int y, .int z, .int e, .int f, .int u, .int 0]) (st2 := [.int 3, .int 0]) (M2 := (A5, G, PF)) (hs2 := []) (C := True) [(.iconst 0, 0, 0), (.istore 10, 0, 0), (.iload 10, 0, 0), (.iconst 3, 0, 0)] [] (by decide +kernel) rfl trivial ?_
            refine go_cmp (cnd := .ge) (off := 28) 302 (by decide +kernel) (by decide) (fun (h : 3 ≤ (0 : Int32)) => absurd h (by decide)) (fun _ => ?_)
            refine go_blk (pc2 := 284) (L2 := [.int w, .int c, .int d, .ref 0, .int x, .int y, .int z, .int e, .int f, .int u, .int 0]) (st2 := [.int (-1), .int (-1), .int 0, .ref 0]) (M2 := (A5, G, PF)) (hs2 := []) (C := True) [(.aload_n 3, 0, 0), (.iconst 2, 0, 0), (.iload 10, 0, 0), (.imul, 0, 0), (.iconst (-1), 0, 0), (.iconst (-1), 0, 0)] [] (by decide +kernel) rfl trivial ?_
            refine go_call (Y2 := mX5_clause) (n2 := 27) (st := []) [.ref 0] [.int 0, .int (-1), .int (-1)] ck_6_27 cwX5_clause rfl (by decide +kernel) rfl (fun h => absurd h (by decide)) (fun _ => ⟨0, rfl, by decide, rfl⟩) (Nat.le_of_ble_eq_true rfl) (Or.inl rfl) (fun _ _ _ h => h) (q_clause l G (lf := fun i => 2 * i) (j := 0) (lv := 0) (hA5.ki (by decide)) (Ext.rf (hA5.ki (by decide)) hA5.2.2.2.2.1 _) (by decide) (by decide) (by decide) (by decide)) (fun v M2 hp46 => ?_)
            obtain ⟨rfl, A6, rfl, hA6⟩ := hp46
            show Go l ro0 mX6_fixed 27 (A6, G, PF) 287 [.int w, .int c, .int d, .ref 0, .int x, .int y, .int z, .int e, .int f, .int u, .int 0] [.int (nI (0 + 0 + 1))] 27 _
            refine go_blk (pc2 := 291) (L2 := [.int w, .int c, .int d, .ref 0, .int x, .int y, .int z, .int e, .int f, .int u, .int 0]) (st2 := [.int 1, .int (nI (0 + 0 + 1))]) (M2 := (A6, G, PF)) (hs2 := []) (C := True) [(.iload 10, 0, 0), (.iconst 1, 0, 0), (.iadd, 0, 0)] [] (by decide +kernel) rfl trivial ?_
            refine go_cmp (cnd := .eq) (off := 5) 296 (by decide +kernel) (by decide) (fun _ => ?_) (fun (h : ¬ (nI (0 + 0 + 1)) = 1) => absurd h (fun zz => zz ((nx_eq (a := (0 + 0 + 1)) (b := 1) rfl rfl (by omega) (by omega)).mpr (by omega))))
            refine go_blk (pc2 := 299) (L2 := [.int w, .int c, .int d, .ref 0, .int x, .int y, .int z, .int e, .int f, .int u, .int 1]) (st2 := []) (M2 := (A6, G, PF)) (hs2 := []) (C := True) [(.iinc 10 1, 0, 0)] [] (by decide +kernel) rfl trivial ?_
            refine go_goto (off := -28) 271 (by decide +kernel) (by decide) ?_
            refine go_blk (pc2 := 274) (L2 := [.int w, .int c, .int d, .ref 0, .int x, .int y, .int z, .int e, .int f, .int u, .int 1]) (st2 := [.int 3, .int 1]) (M2 := (A6, G, PF)) (hs2 := []) (C := True) [(.iload 10, 0, 0), (.iconst 3, 0, 0)] [] (by decide +kernel) rfl trivial ?_
            refine go_cmp (cnd := .ge) (off := 28) 302 (by decide +kernel) (by decide) (fun (h : 3 ≤ (1 : Int32)) => absurd h (by decide)) (fun _ => ?_)
            refine go_blk (pc2 := 284) (L2 := [.int w, .int c, .int d, .ref 0, .int x, .int y, .int z, .int e, .int f, .int u, .int 1]) (st2 := [.int (-1), .int (-1), .int 2, .ref 0]) (M2 := (A6, G, PF)) (hs2 := []) (C := True) [(.aload_n 3, 0, 0), (.iconst 2, 0, 0), (.iload 10, 0, 0), (.imul, 0, 0), (.iconst (-1), 0, 0), (.iconst (-1), 0, 0)] [] (by decide +kernel) rfl trivial ?_
            refine go_call (Y2 := mX5_clause) (n2 := 27) (st := []) [.ref 0] [.int 2, .int (-1), .int (-1)] ck_6_27 cwX5_clause rfl (by decide +kernel) rfl (fun h => absurd h (by decide)) (fun _ => ⟨0, rfl, by decide, rfl⟩) (Nat.le_of_ble_eq_true rfl) (Or.inl rfl) (fun _ _ _ h => h) (q_clause l G (lf := fun i => 2 * i) (j := 1) (lv := 0) (hA5.ki (by decide)) hA6 (by decide) (by decide) (by decide) (by decide)) (fun v M2 hp47 => ?_)
            obtain ⟨rfl, A7, rfl, hA7⟩ := hp47
            show Go l ro0 mX6_fixed 27 (A7, G, PF) 287 [.int w, .int c, .int d, .ref 0, .int x, .int y, .int z, .int e, .int f, .int u, .int 1] [.int (nI (0 + 1 + 1))] 27 _
            refine go_blk (pc2 := 291) (L2 := [.int w, .int c, .int d, .ref 0, .int x, .int y, .int z, .int e, .int f, .int u, .int 1]) (st2 := [.int 2, .int (nI (0 + 1 + 1))]) (M2 := (A7, G, PF)) (hs2 := []) (C := True) [(.iload 10, 0, 0), (.iconst 1, 0, 0), (.iadd, 0, 0)] [] (by decide +kernel) rfl trivial ?_
            refine go_cmp (cnd := .eq) (off := 5) 296 (by decide +kernel) (by decide) (fun _ => ?_) (fun (h : ¬ (nI (0 + 1 + 1)) = 2) => absurd h (fun zz => zz ((nx_eq (a := (0 + 1 + 1)) (b := 2) rfl rfl (by omega) (by omega)).mpr (by omega))))
            refine go_blk (pc2 := 299) (L2 := [.int w, .int c, .int d, .ref 0, .int x, .int y, .int z, .int e, .int f, .int u, .int 2]) (st2 := []) (M2 := (A7, G, PF)) (hs2 := []) (C := True) [(.iinc 10 1, 0, 0)] [] (by decide +kernel) rfl trivial ?_
            refine go_goto (off := -28) 271 (by decide +kernel) (by decide) ?_
            refine go_blk (pc2 := 274) (L2 := [.int w, .int c, .int d, .ref 0, .int x, .int y, .int z, .int e, .int f, .int u, .int 2]) (st2 := [.int 3, .int 2]) (M2 := (A7, G, PF)) (hs2 := []) (C := True) [(.iload 10, 0, 0), (.iconst 3, 0, 0)] [] (by decide +kernel) rfl trivial ?_
            refine go_cmp (cnd := .ge) (off := 28) 302 (by decide +kernel) (by decide) (fun (h : 3 ≤ (2 : Int32)) => absurd h (by decide)) (fun _ => ?_)
            refine go_blk (pc2 := 284) (L2 := [.int w, .int c, .int d, .ref 0, .int x, .int y, .int z, .int e, .int f, .int u, .int 2]) (st2 := [.int (-1), .int (-1), .int 4, .ref 0]) (M2 := (A7, G, PF)) (hs2 := []) (C := True) [(.aload_n 3, 0, 0), (.iconst 2, 0, 0), (.iload 10, 0, 0), (.imul, 0, 0), (.iconst (-1), 0, 0), (.iconst (-1), 0, 0)] [] (by decide +kernel) rfl trivial ?_
            refine go_call (Y2 := mX5_clause) (n2 := 27) (st := []) [.ref 0] [.int 4, .int (-1), .int (-1)] ck_6_27 cwX5_clause rfl (by decide +kernel) rfl (fun h => absurd h (by decide)) (fun _ => ⟨0, rfl, by decide, rfl⟩) (Nat.le_of_ble_eq_true rfl) (Or.inl rfl) (fun _ _ _ h => h) (q_clause l G (lf := fun i => 2 * i) (j := 2) (lv := 0) (hA5.ki (by decide)) hA7 (by decide) (by decide) (by decide) (by decide)) (fun v M2 hp48 => ?_)
            obtain ⟨rfl, A8, rfl, hA8⟩ := hp48
            show Go l ro0 mX6_fixed 27 (A8, G, PF) 287 [.int w, .int c, .int d, .ref 0, .int x, .int y, .int z, .int e, .int f, .int u, .int 2] [.int (nI (0 + 2 + 1))] 27 _
            refine go_blk (pc2 := 291) (L2 := [.int w, .int c, .int d, .ref 0, .int x, .int y, .int z, .int e, .int f, .int u, .int 2]) (st2 := [.int 3, .int (nI (0 + 2 + 1))]) (M2 := (A8, G, PF)) (hs2 := []) (C := True) [(.iload 10, 0, 0), (.iconst 1, 0, 0), (.iadd, 0, 0)] [] (by decide +kernel) rfl trivial ?_
            refine go_cmp (cnd := .eq) (off := 5) 296 (by decide +kernel) (by decide) (fun _ => ?_) (fun (h : ¬ (nI (0 + 2 + 1)) = 3) => absurd h (fun zz => zz ((nx_eq (a := (0 + 2 + 1)) (b := 3) rfl rfl (by omega) (by omega)).mpr (by omega))))
            refine go_blk (pc2 := 299) (L2 := [.int w, .int c, .int d, .ref 0, .int x, .int y, .int z, .int e, .int f, .int u, .int 3]) (st2 := []) (M2 := (A8, G, PF)) (hs2 := []) (C := True) [(.iinc 10 1, 0, 0)] [] (by decide +kernel) rfl trivial ?_
            refine go_goto (off := -28) 271 (by decide +kernel) (by decide) ?_
            refine go_blk (pc2 := 274) (L2 := [.int w, .int c, .int d, .ref 0, .int x, .int y, .int z, .int e, .int f, .int u, .int 3]) (st2 := [.int 3, .int 3]) (M2 := (A8, G, PF)) (hs2 := []) (C := True) [(.iload 10, 0, 0), (.iconst 3, 0, 0)] [] (by decide +kernel) rfl trivial ?_
            refine go_cmp (cnd := .ge) (off := 28) 302 (by decide +kernel) (by decide) (fun _ => ?_) (fun (h : ¬ 3 ≤ (3 : Int32)) => absurd h (by decide))
            refine go_blk (pc2 := 308) (L2 := [.int w, .int c, .int d, .ref 0, .int x, .int y, .int z, .int e, .int f, .int u, .int 3]) (st2 := [.int ((c >>> (11 &&& 31)) &&& 1)]) (M2 := (A8, G, PF)) (hs2 := []) (C := True) [(.iload_n 1, 0, 0), (.bipush 11, 0, 0), (.ishr, 0, 0), (.iconst 1, 0, 0), (.iand, 0, 0)] [] (by decide +kernel) rfl trivial ?_
            refine go_ifz (cnd := .eq) (off := 18) 326 (by decide +kernel) (by decide) (fun (h : ((c >>> (11 &&& 31)) &&& 1) = 0) => absurd h (by assumption)) (fun _ => ?_)
            refine go_blk (pc2 := 315) (L2 := [.int w, .int c, .int d, .ref 0, .int x, .int y, .int z, .int e, .int f, .int u, .int 3]) (st2 := [.int u, .int e]) (M2 := (A8, G, PF)) (hs2 := []) (C := True) [(.iload 7, 0, 0), (.iload 9, 0, 0)] [] (by decide +kernel) rfl trivial ?_
            refine go_cmp (cnd := .ne) (off := 7) 322 (by decide +kernel) (by decide) (fun (c49 : ¬ e = u) => ?_) (fun (c49 : e = u) => ?_)
            · skip
              refine go_blk (pc2 := 323) (L2 := [.int w, .int c, .int d, .ref 0, .int x, .int y, .int z, .int e, .int f, .int u, .int 3]) (st2 := [.int 0]) (M2 := (A8, G, PF)) (hs2 := []) (C := True) [(.iconst 0, 0, 0)] [] (by decide +kernel) rfl trivial ?_
              refine go_goto (off := 15) 338 (by decide +kernel) (by decide) ?_
              refine go_blk (pc2 := 341) (L2 := [.int w, .int c, .int d, .ref 0, .int x, .int y, .int z, .int e, .int f, .int u, .int 0]) (st2 := [.ref 0]) (M2 := (A8, G, PF)) (hs2 := []) (C := True) [(.istore 10, 0, 0), (.aload_n 3, 0, 0)] [] (by decide +kernel) rfl trivial ?_
              refine go_call (Y2 := mX5_worlds) (n2 := 27) (st := []) [.ref 0] [] ck_6_67 cwX5_worlds rfl (by decide +kernel) rfl (fun h => absurd h (by decide)) (fun _ => ⟨0, rfl, by decide, rfl⟩) (Nat.le_of_ble_eq_true rfl) (Or.inl rfl) (fun _ _ _ h => h) (have hub : u.toInt.natAbs ≤ 99 := f99_I ⟨Int32.not_lt.mp (by assumption), Int32.not_lt.mp (by assumption)⟩; have heb : e.toInt.natAbs ≤ 432 := (by rw [ee]; exact (form_I ⟨smf_f9 _, smf_f9 _, smf_f9 _⟩ hb).2); q_worlds_f l G (th := False) (s0 := 23) hA5 hA8 (fxa_of r1 r2 r3 r4 r5 t1 t2 t3 t4 t5 ee.symm ef.symm hb (eu_d heb hub).2 (Or.inr ⟨rfl, iff_of_false (fun z => z) (th_2 heb hub (by assumption))⟩)) (Or.inr ⟨fun z => z, rfl⟩)) (fun v M2 hp50 => ?_)
              obtain ⟨rfl, B, cnt, rfl, hF⟩ := hp50
              show Go l ro0 mX6_fixed 27 (B, G, PF) 344 [.int w, .int c, .int d, .ref 0, .int x, .int y, .int z, .int e, .int f, .int u, .int 0] [.int 1] 27 _
              refine go_blk (pc2 := 345) (L2 := [.int w, .int c, .int d, .ref 0, .int x, .int y, .int z, .int e, .int f, .int u, .int 0]) (st2 := [.int 1, .int 1]) (M2 := (B, G, PF)) (hs2 := []) (C := True) [(.iconst 1, 0, 0)] [] (by decide +kernel) rfl trivial ?_
              refine go_cmp (cnd := .ne) (off := 66) 411 (by decide +kernel) (by decide) (fun (h : ¬ (1 : Int32) = 1) => absurd h (by decide)) (fun _ => ?_)
              refine go_blk (pc2 := 351) (L2 := [.int w, .int c, .int d, .ref 0, .int x, .int y, .int z, .int e, .int f, .int u, .int 0]) (st2 := [.int 0, .ref 0]) (M2 := (B, G, PF)) (hs2 := []) (C := True) [(.aload_n 3, 0, 0), (.iload 10, 0, 0)] [] (by decide +kernel) rfl trivial ?_
              refine go_ifz (cnd := .eq) (off := 8) 359 (by decide +kernel) (by decide) (fun _ => ?_) (fun (h : ¬ (0 : Int32) = 0) => absurd h (by decide))
              refine go_blk (pc2 := 361) (L2 := [.int w, .int c, .int d, .ref 0, .int x, .int y, .int z, .int e, .int f, .int u, .int 0]) (st2 := [.int 23, .ref 0]) (M2 := (B, G, PF)) (hs2 := []) (C := True) [(.bipush 23, 0, 0)] [] (by decide +kernel) rfl trivial ?_
              refine go_call (Y2 := mX5_world) (n2 := 27) (st := []) [.ref 0] [.int 23] ck_6_31 cwX5_world rfl (by decide +kernel) rfl (fun h => absurd h (by decide)) (fun _ => ⟨0, rfl, by decide, rfl⟩) (Nat.le_of_ble_eq_true rfl) (Or.inl rfl) (fun _ _ _ h => h) (q_world l G m5 hF.1 (s := 23) (by decide)) (fun v M2 hp51 => ?_)
              obtain ⟨rfl, rfl⟩ := hp51
              rw [bi_t ((hF.wd (Or.inr ⟨fun z => z, rfl⟩) 23 (by decide)).mpr rfl)]
              show Go l ro0 mX6_fixed 27 (B, G, PF) 364 [.int w, .int c, .int d, .ref 0, .int x, .int y, .int z, .int e, .int f, .int u, .int 0] [.int 1] 27 _
              refine go_ifz (cnd := .eq) (off := 47) 411 (by decide +kernel) (by decide) (fun (h : (1 : Int32) = 0) => absurd h (by decide)) (fun _ => ?_)
              refine go_blk (pc2 := 372) (L2 := [.int w, .int c, .int d, .ref 0, .int x, .int y, .int z, .int e, .int f, .int u, .int 0]) (st2 := [.int 1, .int (-2), .int 3, .ref 0]) (M2 := (B, G, PF)) (hs2 := []) (C := True) [(.aload_n 3, 0, 0), (.iconst 3, 0, 0), (.bipush (-2), 0, 0), (.iconst 1, 0, 0)] [] (by decide +kernel) rfl trivial ?_
              refine go_call (Y2 := mX5_most) (n2 := 27) (st := []) [.ref 0] [.int 3, .int (-2), .int 1] ck_6_52 cwX5_most rfl (by decide +kernel) rfl (fun h => absurd h (by decide)) (fun _ => ⟨0, rfl, by decide, rfl⟩) (Nat.le_of_ble_eq_true rfl) (Or.inl rfl) (fun _ _ _ h => h) (q_most_f l G hF (Or.inr ⟨fun z => z, rfl⟩) ⟨⟨by decide, by decide⟩, ⟨by decide, by decide⟩, ⟨by decide, by decide⟩⟩) (fun v M2 hp52 => ?_)
              obtain ⟨rfl, B2, G2, rfl, hE2, e6, e7⟩ := hp52
              show Go l ro0 mX6_fixed 27 (B2, G2, PF) 375 [.int w, .int c, .int d, .ref 0, .int x, .int y, .int z, .int e, .int f, .int u, .int 0] [.int 2] 27 _
              refine go_blk (pc2 := 376) (L2 := [.int w, .int c, .int d, .ref 0, .int x, .int y, .int z, .int e, .int f, .int u, .int 0]) (st2 := [.int 2, .int 2]) (M2 := (B2, G2, PF)) (hs2 := []) (C := True) [(.iconst 2, 0, 0)] [] (by decide +kernel) rfl trivial ?_
              refine go_cmp (cnd := .ne) (off := 35) 411 (by decide +kernel) (by decide) (fun (h : ¬ (2 : Int32) = 2) => absurd h (by decide)) (fun _ => ?_)
              refine go_blk (pc2 := 381) (L2 := [.int w, .int c, .int d, .ref 0, .int x, .int y, .int z, .int e, .int f, .int u, .int 0]) (st2 := [.int 0, .ref 0]) (M2 := (B2, G2, PF)) (hs2 := []) (C := True) [(.aload_n 3, 0, 0), (.iconst 0, 0, 0)] [] (by decide +kernel) rfl trivial ?_
              refine go_call (Y2 := mX5_top) (n2 := 27) (st := []) [.ref 0] [.int 0] ck_6_55 cwX5_top rfl (by decide +kernel) rfl (fun h => absurd h (by decide)) (fun _ => ⟨0, rfl, by decide, rfl⟩) (Nat.le_of_ble_eq_true rfl) (Or.inl rfl) (fun _ _ _ h => h) (q_top0 l B2 G2) (fun v M2 hp53 => ?_)
              obtain ⟨rfl, rfl⟩ := hp53
              rw [e6]
              show Go l ro0 mX6_fixed 27 (B2, G2, PF) 384 [.int w, .int c, .int d, .ref 0, .int x, .int y, .int z, .int e, .int f, .int u, .int 0] [.long (Int64.ofInt (vP 3 (-2) 1 x y z))] 27 _
              refine go_blk (pc2 := 398) (L2 := [.int w, .int c, .int d, .ref 0, .int x, .int y, .int z, .int e, .int f, .int u, .int 0]) (st2 := [.int (lg_cmp (Int64.ofInt (vP 3 (-2) 1 x y z)) ((((3 * x) - (2 * y)) + z).toInt64))]) (M2 := (B2, G2, PF)) (hs2 := []) (C := True) [(.iconst 3, 0, 0), (.iload 4, 0, 0), (.imul, 0, 0), (.iconst 2, 0, 0), (.iload 5, 0, 0), (.imul, 0, 0), (.isub, 0, 0), (.iload 6, 0, 0), (.iadd, 0, 0), (.i2l, 0, 0), (.lcmp, 0, 0)] [] (by decide +kernel) rfl trivial ?_
              refine go_ifz (cnd := .ne) (off := 13) 411 (by decide +kernel) (by decide) (fun (h : ¬ (lg_cmp (Int64.ofInt (vP 3 (-2) 1 x y z)) ((((3 * x) - (2 * y)) + z).toInt64)) = 0) => absurd h (fun zz => zz (lg_eq.mpr (v_321 hb)))) (fun _ => ?_)
              refine go_blk (pc2 := 403) (L2 := [.int w, .int c, .int d, .ref 0, .int x, .int y, .int z, .int e, .int f, .int u, .int 0]) (st2 := [.int 1, .ref 0]) (M2 := (B2, G2, PF)) (hs2 := []) (C := True) [(.aload_n 3, 0, 0), (.iconst 1, 0, 0)] [] (by decide +kernel) rfl trivial ?_
              refine go_call (Y2 := mX5_top) (n2 := 27) (st := []) [.ref 0] [.int 1] ck_6_55 cwX5_top rfl (by decide +kernel) rfl (fun h => absurd h (by decide)) (fun _ => ⟨0, rfl, by decide, rfl⟩) (Nat.le_of_ble_eq_true rfl) (Or.inl rfl) (fun _ _ _ h => h) (q_top1 l B2 G2) (fun v M2 hp54 => ?_)
              obtain ⟨rfl, rfl⟩ := hp54
              rw [e7]
              show Go l ro0 mX6_fixed 27 (B2, G2, PF) 406 [.int w, .int c, .int d, .ref 0, .int x, .int y, .int z, .int e, .int f, .int u, .int 0] [.long 1] 27 _
              refine go_blk (pc2 := 408) (L2 := [.int w, .int c, .int d, .ref 0, .int x, .int y, .int z, .int e, .int f, .int u, .int 0]) (st2 := [.int (lg_cmp 1 1)]) (M2 := (B2, G2, PF)) (hs2 := []) (C := True) [(.lconst 1, 0, 0), (.lcmp, 0, 0)] [] (by decide +kernel) rfl trivial ?_
              refine go_ifz (cnd := .eq) (off := 5) 413 (by decide +kernel) (by decide) (fun _ => ?_) (fun (h : ¬ (lg_cmp 1 1) = 0) => absurd h (by decide))
              refine go_blk (pc2 := 425) (L2 := [.int w, .int c, .int d, .ref 0, .int x, .int y, .int z, .int e, .int f, .int u, .int 0]) (st2 := [.int ((x + y) + z), .int 1, .int 1, .int 1, .ref 0]) (M2 := (B2, G2, PF)) (hs2 := []) (C := True) [(.aload_n 3, 0, 0), (.iconst 1, 0, 0), (.iconst 1, 0, 0), (.iconst 1, 0, 0), (.iload 4, 0, 0), (.iload 5, 0, 0), (.iadd, 0, 0), (.iload 6, 0, 0), (.iadd, 0, 0)] [] (by decide +kernel) rfl trivial ?_
              refine go_call (Y2 := mX5_bounded) (n2 := 27) (st := []) [.ref 0] [.int 1, .int 1, .int 1, .int ((x + y) + z)] ck_6_59 cwX5_bounded rfl (by decide +kernel) rfl (fun h => absurd h (by decide)) (fun _ => ⟨0, rfl, by decide, rfl⟩) (Nat.le_of_ble_eq_true rfl) (Or.inl rfl) (fun _ _ _ h => h) (q_bnd l G2 hF.1 hF.2.1 hE2 no_l (by decide) f1_ok (bd_f hF.bx).1) (fun v M2 hp55 => ?_)
              obtain ⟨B3, G3, ttB3, rfl, hE3, hPB3, rfl⟩ := hp55
              rw [Kj0] at hPB3
              rw [bi_t ((bd_1 hF (Or.inr ⟨fun z => z, rfl⟩) hPB3).1)]
              show Go l ro0 mX6_fixed 27 (B3, G3, PF) 428 [.int w, .int c, .int d, .ref 0, .int x, .int y, .int z, .int e, .int f, .int u, .int 0] [.int 1] 27 _
              refine go_ifz (cnd := .eq) (off := 27) 455 (by decide +kernel) (by decide) (fun (h : (1 : Int32) = 0) => absurd h (by decide)) (fun _ => ?_)
              refine go_blk (pc2 := 445) (L2 := [.int w, .int c, .int d, .ref 0, .int x, .int y, .int z, .int e, .int f, .int u, .int 0]) (st2 := [.int (((x + y) + z) - 1), .int 1, .int 1, .int 1, .ref 0]) (M2 := (B3, G3, PF)) (hs2 := []) (C := True) [(.aload_n 3, 0, 0), (.iconst 1, 0, 0), (.iconst 1, 0, 0), (.iconst 1, 0, 0), (.iload 4, 0, 0), (.iload 5, 0, 0), (.iadd, 0, 0), (.iload 6, 0, 0), (.iadd, 0, 0), (.iconst 1, 0, 0), (.isub, 0, 0)] [] (by decide +kernel) rfl trivial ?_
              refine go_call (Y2 := mX5_bounded) (n2 := 27) (st := []) [.ref 0] [.int 1, .int 1, .int 1, .int (((x + y) + z) - 1)] ck_6_59 cwX5_bounded rfl (by decide +kernel) rfl (fun h => absurd h (by decide)) (fun _ => ⟨0, rfl, by decide, rfl⟩) (Nat.le_of_ble_eq_true rfl) (Or.inl rfl) (fun _ _ _ h => h) (q_bnd l G3 hF.1 hF.2.1 hE3 no_l (by decide) f1_ok (bd_f hF.bx).2) (fun v M2 hp56 => ?_)
              obtain ⟨B4, G4, ttB4, rfl, hE4, hPB4, rfl⟩ := hp56
              rw [Kj0] at hPB4
              rw [bi_f ((bd_1 hF (Or.inr ⟨fun z => z, rfl⟩) hPB4).2)]
              show Go l ro0 mX6_fixed 27 (B4, G4, PF) 448 [.int w, .int c, .int d, .ref 0, .int x, .int y, .int z, .int e, .int f, .int u, .int 0] [.int 0] 27 _
              refine go_ifz (cnd := .ne) (off := 7) 455 (by decide +kernel) (by decide) (fun (h : ¬ (0 : Int32) = 0) => absurd h (by decide)) (fun _ => ?_)
              refine go_blk (pc2 := 452) (L2 := [.int w, .int c, .int d, .ref 0, .int x, .int y, .int z, .int e, .int f, .int u, .int 0]) (st2 := [.int 1]) (M2 := (B4, G4, PF)) (hs2 := []) (C := True) [(.iconst 1, 0, 0)] [] (by decide +kernel) rfl trivial ?_
              refine go_goto (off := 4) 456 (by decide +kernel) (by decide) ?_
              exact go_retz (by decide +kernel) rfl (Or.inr rfl) (rfl)
            · skip
              refine go_blk (pc2 := 319) (L2 := [.int w, .int c, .int d, .ref 0, .int x, .int y, .int z, .int e, .int f, .int u, .int 3]) (st2 := [.int 1]) (M2 := (A8, G, PF)) (hs2 := []) (C := True) [(.iconst 1, 0, 0)] [] (by decide +kernel) rfl trivial ?_
              refine go_goto (off := 19) 338 (by decide +kernel) (by decide) ?_
              refine go_blk (pc2 := 341) (L2 := [.int w, .int c, .int d, .ref 0, .int x, .int y, .int z, .int e, .int f, .int u, .int 1]) (st2 := [.ref 0]) (M2 := (A8, G, PF)) (hs2 := []) (C := True) [(.istore 10, 0, 0), (.aload_n 3, 0, 0)] [] (by decide +kernel) rfl trivial ?_
              refine go_call (Y2 := mX5_worlds) (n2 := 27) (st := []) [.ref 0] [] ck_6_67 cwX5_worlds rfl (by decide +kernel) rfl (fun h => absurd h (by decide)) (fun _ => ⟨0, rfl, by decide, rfl⟩) (Nat.le_of_ble_eq_true rfl) (Or.inl rfl) (fun _ _ _ h => h) (have hub : u.toInt.natAbs ≤ 99 := f99_I ⟨Int32.not_lt.mp (by assumption), Int32.not_lt.mp (by assumption)⟩; have heb : e.toInt.natAbs ≤ 432 := (by rw [ee]; exact (form_I ⟨smf_f9 _, smf_f9 _, smf_f9 _⟩ hb).2); q_worlds_f l G (th := True) (s0 := 31) hA5 hA8 (fxa_of r1 r2 r3 r4 r5 t1 t2 t3 t4 t5 ee.symm ef.symm hb (eu_d heb hub).2 (Or.inr ⟨rfl, iff_of_true trivial (th_1 heb hub (by assumption))⟩)) (Or.inl ⟨trivial, rfl⟩)) (fun v M2 hp57 => ?_)
              obtain ⟨rfl, B, cnt, rfl, hF⟩ := hp57
              show Go l ro0 mX6_fixed 27 (B, G, PF) 344 [.int w, .int c, .int d, .ref 0, .int x, .int y, .int z, .int e, .int f, .int u, .int 1] [.int 1] 27 _
              refine go_blk (pc2 := 345) (L2 := [.int w, .int c, .int d, .ref 0, .int x, .int y, .int z, .int e, .int f, .int u, .int 1]) (st2 := [.int 1, .int 1]) (M2 := (B, G, PF)) (hs2 := []) (C := True) [(.iconst 1, 0, 0)] [] (by decide +kernel) rfl trivial ?_
              refine go_cmp (cnd := .ne) (off := 66) 411 (by decide +kernel) (by decide) (fun (h : ¬ (1 : Int32) = 1) => absurd h (by decide)) (fun _ => ?_)
              refine go_blk (pc2 := 351) (L2 := [.int w, .int c, .int d, .ref 0, .int x, .int y, .int z, .int e, .int f, .int u, .int 1]) (st2 := [.int 1, .ref 0]) (M2 := (B, G, PF)) (hs2 := []) (C := True) [(.aload_n 3, 0, 0), (.iload 10, 0, 0)] [] (by decide +kernel) rfl trivial ?_
              refine go_ifz (cnd := .eq) (off := 8) 359 (by decide +kernel) (by decide) (fun (h : (1 : Int32) = 0) => absurd h (by decide)) (fun _ => ?_)
              refine go_blk (pc2 := 356) (L2 := [.int w, .int c, .int d, .ref 0, .int x, .int y, .int z, .int e, .int f, .int u, .int 1]) (st2 := [.int 31, .ref 0]) (M2 := (B, G, PF)) (hs2 := []) (C := True) [(.bipush 31, 0, 0)] [] (by decide +kernel) rfl trivial ?_
              refine go_goto (off := 5) 361 (by decide +kernel) (by decide) ?_
              refine go_call (Y2 := mX5_world) (n2 := 27) (st := []) [.ref 0] [.int 31] ck_6_31 cwX5_world rfl (by decide +kernel) rfl (fun h => absurd h (by decide)) (fun _ => ⟨0, rfl, by decide, rfl⟩) (Nat.le_of_ble_eq_true rfl) (Or.inl rfl) (fun _ _ _ h => h) (q_world l G m5 hF.1 (s := 31) (by decide)) (fun v M2 hp58 => ?_)
              obtain ⟨rfl, rfl⟩ := hp58
              rw [bi_t ((hF.wd (Or.inl ⟨trivial, rfl⟩) 31 (by decide)).mpr rfl)]
              show Go l ro0 mX6_fixed 27 (B, G, PF) 364 [.int w, .int c, .int d, .ref 0, .int x, .int y, .int z, .int e, .int f, .int u, .int 1] [.int 1] 27 _
              refine go_ifz (cnd := .eq) (off := 47) 411 (by decide +kernel) (by decide) (fun (h : (1 : Int32) = 0) => absurd h (by decide)) (fun _ => ?_)
              refine go_blk (pc2 := 372) (L2 := [.int w, .int c, .int d, .ref 0, .int x, .int y, .int z, .int e, .int f, .int u, .int 1]) (st2 := [.int 1, .int (-2), .int 3, .ref 0]) (M2 := (B, G, PF)) (hs2 := []) (C := True) [(.aload_n 3, 0, 0), (.iconst 3, 0, 0), (.bipush (-2), 0, 0), (.iconst 1, 0, 0)] [] (by decide +kernel) rfl trivial ?_
              refine go_call (Y2 := mX5_most) (n2 := 27) (st := []) [.ref 0] [.int 3, .int (-2), .int 1] ck_6_52 cwX5_most rfl (by decide +kernel) rfl (fun h => absurd h (by decide)) (fun _ => ⟨0, rfl, by decide, rfl⟩) (Nat.le_of_ble_eq_true rfl) (Or.inl rfl) (fun _ _ _ h => h) (q_most_f l G hF (Or.inl ⟨trivial, rfl⟩) ⟨⟨by decide, by decide⟩, ⟨by decide, by decide⟩, ⟨by decide, by decide⟩⟩) (fun v M2 hp59 => ?_)
              obtain ⟨rfl, B2, G2, rfl, hE2, e6, e7⟩ := hp59
              show Go l ro0 mX6_fixed 27 (B2, G2, PF) 375 [.int w, .int c, .int d, .ref 0, .int x, .int y, .int z, .int e, .int f, .int u, .int 1] [.int 2] 27 _
              refine go_blk (pc2 := 376) (L2 := [.int w, .int c, .int d, .ref 0, .int x, .int y, .int z, .int e, .int f, .int u, .int 1]) (st2 := [.int 2, .int 2]) (M2 := (B2, G2, PF)) (hs2 := []) (C := True) [(.iconst 2, 0, 0)] [] (by decide +kernel) rfl trivial ?_
              refine go_cmp (cnd := .ne) (off := 35) 411 (by decide +kernel) (by decide) (fun (h : ¬ (2 : Int32) = 2) => absurd h (by decide)) (fun _ => ?_)
              refine go_blk (pc2 := 381) (L2 := [.int w, .int c, .int d, .ref 0, .int x, .int y, .int z, .int e, .int f, .int u, .int 1]) (st2 := [.int 0, .ref 0]) (M2 := (B2, G2, PF)) (hs2 := []) (C := True) [(.aload_n 3, 0, 0), (.iconst 0, 0, 0)] [] (by decide +kernel) rfl trivial ?_
              refine go_call (Y2 := mX5_top) (n2 := 27) (st := []) [.ref 0] [.int 0] ck_6_55 cwX5_top rfl (by decide +kernel) rfl (fun h => absurd h (by decide)) (fun _ => ⟨0, rfl, by decide, rfl⟩) (Nat.le_of_ble_eq_true rfl) (Or.inl rfl) (fun _ _ _ h => h) (q_top0 l B2 G2) (fun v M2 hp60 => ?_)
              obtain ⟨rfl, rfl⟩ := hp60
              rw [e6]
              show Go l ro0 mX6_fixed 27 (B2, G2, PF) 384 [.int w, .int c, .int d, .ref 0, .int x, .int y, .int z, .int e, .int f, .int u, .int 1] [.long (Int64.ofInt (vP 3 (-2) 1 x y z))] 27 _
              refine go_blk (pc2 := 398) (L2 := [.int w, .int c, .int d, .ref 0, .int x, .int y, .int z, .int e, .int f, .int u, .int 1]) (st2 := [.int (lg_cmp (Int64.ofInt (vP 3 (-2) 1 x y z)) ((((3 * x) - (2 * y)) + z).toInt64))]) (M2 := (B2, G2, PF)) (hs2 := []) (C := True) [(.iconst 3, 0, 0), (.iload 4, 0, 0), (.imul, 0, 0), (.iconst 2, 0, 0), (.iload 5, 0, 0), (.imul, 0, 0), (.isub, 0, 0), (.iload 6, 0, 0), (.iadd, 0, 0), (.i2l, 0, 0), (.lcmp, 0, 0)] [] (by decide +kernel) rfl trivial ?_
              refine go_ifz (cnd := .ne) (off := 13) 411 (by decide +kernel) (by decide) (fun (h : ¬ (lg_cmp (Int64.ofInt (vP 3 (-2) 1 x y z)) ((((3 * x) - (2 * y)) + z).toInt64)) = 0) => absurd h (fun zz => zz (lg_eq.mpr (v_321 hb)))) (fun _ => ?_)
              refine go_blk (pc2 := 403) (L2 := [.int w, .int c, .int d, .ref 0, .int x, .int y, .int z, .int e, .int f, .int u, .int 1]) (st2 := [.int 1, .ref 0]) (M2 := (B2, G2, PF)) (hs2 := []) (C := True) [(.aload_n 3, 0, 0), (.iconst 1, 0, 0)] [] (by decide +kernel) rfl trivial ?_
              refine go_call (Y2 := mX5_top) (n2 := 27) (st := []) [.ref 0] [.int 1] ck_6_55 cwX5_top rfl (by decide +kernel) rfl (fun h => absurd h (by decide)) (fun _ => ⟨0, rfl, by decide, rfl⟩) (Nat.le_of_ble_eq_true rfl) (Or.inl rfl) (fun _ _ _ h => h) (q_top1 l B2 G2) (fun v M2 hp61 => ?_)
              obtain ⟨rfl, rfl⟩ := hp61
              rw [e7]
              show Go l ro0 mX6_fixed 27 (B2, G2, PF) 406 [.int w, .int c, .int d, .ref 0, .int x, .int y, .int z, .int e, .int f, .int u, .int 1] [.long 1] 27 _
              refine go_blk (pc2 := 408) (L2 := [.int w, .int c, .int d, .ref 0, .int x, .int y, .int z, .int e, .int f, .int u, .int 1]) (st2 := [.int (lg_cmp 1 1)]) (M2 := (B2, G2, PF)) (hs2 := []) (C := True) [(.lconst 1, 0, 0), (.lcmp, 0, 0)] [] (by decide +kernel) rfl trivial ?_
              refine go_ifz (cnd := .eq) (off := 5) 413 (by decide +kernel) (by decide) (fun _ => ?_) (fun (h : ¬ (lg_cmp 1 1) = 0) => absurd h (by decide))
              refine go_blk (pc2 := 425) (L2 := [.int w, .int c, .int d, .ref 0, .int x, .int y, .int z, .int e, .int f, .int u, .int 1]) (st2 := [.int ((x + y) + z), .int 1, .int 1, .int 1, .ref 0]) (M2 := (B2, G2, PF)) (hs2 := []) (C := True) [(.aload_n 3, 0, 0), (.iconst 1, 0, 0), (.iconst 1, 0, 0), (.iconst 1, 0, 0), (.iload 4, 0, 0), (.iload 5, 0, 0), (.iadd, 0, 0), (.iload 6, 0, 0), (.iadd, 0, 0)] [] (by decide +kernel) rfl trivial ?_
              refine go_call (Y2 := mX5_bounded) (n2 := 27) (st := []) [.ref 0] [.int 1, .int 1, .int 1, .int ((x + y) + z)] ck_6_59 cwX5_bounded rfl (by decide +kernel) rfl (fun h => absurd h (by decide)) (fun _ => ⟨0, rfl, by decide, rfl⟩) (Nat.le_of_ble_eq_true rfl) (Or.inl rfl) (fun _ _ _ h => h) (q_bnd l G2 hF.1 hF.2.1 hE2 no_l (by decide) f1_ok (bd_f hF.bx).1) (fun v M2 hp62 => ?_)
              obtain ⟨B3, G3, ttB3, rfl, hE3, hPB3, rfl⟩ := hp62
              rw [Kj0] at hPB3
              rw [bi_t ((bd_1 hF (Or.inl ⟨trivial, rfl⟩) hPB3).1)]
              show Go l ro0 mX6_fixed 27 (B3, G3, PF) 428 [.int w, .int c, .int d, .ref 0, .int x, .int y, .int z, .int e, .int f, .int u, .int 1] [.int 1] 27 _
              refine go_ifz (cnd := .eq) (off := 27) 455 (by decide +kernel) (by decide) (fun (h : (1 : Int32) = 0) => absurd h (by decide)) (fun _ => ?_)
              refine go_blk (pc2 := 445) (L2 := [.int w, .int c, .int d, .ref 0, .int x, .int y, .int z, .int e, .int f, .int u, .int 1]) (st2 := [.int (((x + y) + z) - 1), .int 1, .int 1, .int 1, .ref 0]) (M2 := (B3, G3, PF)) (hs2 := []) (C := True) [(.aload_n 3, 0, 0), (.iconst 1, 0, 0), (.iconst 1, 0, 0), (.iconst 1, 0, 0), (.iload 4, 0, 0), (.iload 5, 0, 0), (.iadd, 0, 0), (.iload 6, 0, 0), (.iadd, 0, 0), (.iconst 1, 0, 0), (.isub, 0, 0)] [] (by decide +kernel) rfl trivial ?_
              refine go_call (Y2 := mX5_bounded) (n2 := 27) (st := []) [.ref 0] [.int 1, .int 1, .int 1, .int (((x + y) + z) - 1)] ck_6_59 cwX5_bounded rfl (by decide +kernel) rfl (fun h => absurd h (by decide)) (fun _ => ⟨0, rfl, by decide, rfl⟩) (Nat.le_of_ble_eq_true rfl) (Or.inl rfl) (fun _ _ _ h => h) (q_bnd l G3 hF.1 hF.2.1 hE3 no_l (by decide) f1_ok (bd_f hF.bx).2) (fun v M2 hp63 => ?_)
              obtain ⟨B4, G4, ttB4, rfl, hE4, hPB4, rfl⟩ := hp63
              rw [Kj0] at hPB4
              rw [bi_f ((bd_1 hF (Or.inl ⟨trivial, rfl⟩) hPB4).2)]
              show Go l ro0 mX6_fixed 27 (B4, G4, PF) 448 [.int w, .int c, .int d, .ref 0, .int x, .int y, .int z, .int e, .int f, .int u, .int 1] [.int 0] 27 _
              refine go_ifz (cnd := .ne) (off := 7) 455 (by decide +kernel) (by decide) (fun (h : ¬ (0 : Int32) = 0) => absurd h (by decide)) (fun _ => ?_)
              refine go_blk (pc2 := 452) (L2 := [.int w, .int c, .int d, .ref 0, .int x, .int y, .int z, .int e, .int f, .int u, .int 1]) (st2 := [.int 1]) (M2 := (B4, G4, PF)) (hs2 := []) (C := True) [(.iconst 1, 0, 0)] [] (by decide +kernel) rfl trivial ?_
              refine go_goto (off := 4) 456 (by decide +kernel) (by decide) ?_
              exact go_retz (by decide +kernel) rfl (Or.inr rfl) (rfl)
        · skip
          refine go_blk (pc2 := 196) (L2 := [.int w, .int c, .int d, .ref 0, .int x, .int y, .int z, .int e, .int f, .int u, .null]) (st2 := [.int 1]) (M2 := (A3, G, PF)) (hs2 := []) (C := True) [(.iconst 1, 0, 0)] [] (by decide +kernel) rfl trivial ?_
          exact go_retz (by decide +kernel) rfl (Or.inr rfl) (rfl)
