/-! ===== three equations that fix the numbers: one world, one value ===== -/
def Row (A : Nat → Nat → Int32) (k : Nat) (a b c d : Int32) : Prop := A 13 k = a ∧ A 14 k = b ∧ A 15 k = c ∧ A 16 k = d
theorem fov_row {A : Nat → Nat → Int32} {k : Nat} {a b c d : Int32} (h : Row A k a b c d) (X Y Z W : Int32) : fov A X Y Z W k = a * X + b * Y + c * Z - d * W := by
  unfold fov
  rw [h.1, h.2.1, h.2.2.1, h.2.2.2]
theorem third_inv {q : Int32} (h : 3 * q = 0) : q = 0 := by
  have e : q = (-1431655765) * (3 * q) := by
    have : (-1431655765 : Int32) * 3 = 1 := by decide
    rw [← Int32.mul_assoc, this, Int32.one_mul]
  rw [e, h, Int32.mul_zero]
def PtN (A : Nat → Nat → Int32) (n : Nat) (x y z : Int32) : Prop := A 17 n = x * A 20 n ∧ A 18 n = y * A 20 n ∧ A 19 n = z * A 20 n
theorem on_pt {A : Nat → Nat → Int32} {n : Nat} {x y z : Int32} (r0 : Row A 0 1 0 0 x) (r1 : Row A 1 2 1 0 (2 * x + y)) (r2 : Row A 2 0 (-1) 3 (3 * z - y)) (h0 : vC A n 0 = 0) (h1 : vC A n 1 = 0) (h2 : vC A n 2 = 0) : PtN A n x y z := by
  unfold vC at h0 h1 h2
  rw [fov_row r0] at h0
  rw [fov_row r1] at h1
  rw [fov_row r2] at h2
  unfold PtN
  generalize A 17 n = X at *
  generalize A 18 n = Y at *
  generalize A 19 n = Z at *
  generalize A 20 n = W at *
  have e0 : X = x * W := by grind
  have e1 : Y = y * W := by grind
  have e2 : 3 * (Z - z * W) = 0 := by grind
  have e3 := third_inv e2
  exact ⟨e0, e1, by grind⟩
theorem v_pt {A : Nat → Nat → Int32} {n t : Nat} {a b c d x y z : Int32} (r : Row A t a b c d) (h : PtN A n x y z) : vC A n t = (a * x + b * y + c * z - d) * A 20 n := by
  unfold vC
  rw [fov_row r, h.1, h.2.1, h.2.2]
  grind
theorem sg_w {q w : Int32} (hq : q.toInt.natAbs ≤ 1000) (h1 : 0 < w.toInt) (h2 : w.toInt ≤ 4374) : (q * w ≤ 0 ↔ q.toInt ≤ 0) ∧ (0 ≤ q * w ↔ 0 ≤ q.toInt) ∧ (q * w = 0 ↔ q.toInt = 0) ∧ (0 < q * w ↔ 0 < q.toInt) := by
  have hb : (q.toInt * w.toInt).natAbs ≤ 1000 * 4374 := mulb hq (by omega)
  have e : (q * w).toInt = q.toInt * w.toInt := by
    rw [Int32.toInt_mul]
    apply Int.bmod_eq_of_le <;> omega
  have a1 : q.toInt * w.toInt ≤ 0 ↔ q.toInt ≤ 0 := by
    have := le_c (a := q.toInt) (b := 0) h1
    rw [Int.zero_mul] at this
    exact this
  have a2 : 0 ≤ q.toInt * w.toInt ↔ 0 ≤ q.toInt := by
    have := le_c (a := 0) (b := q.toInt) h1
    rw [Int.zero_mul] at this
    exact this
  have z0 : (0 : Int32).toInt = 0 := by decide
  have b1 : q * w ≤ 0 ↔ q.toInt ≤ 0 := by rw [Int32.le_iff_toInt_le, e, z0]; exact a1
  have b2 : 0 ≤ q * w ↔ 0 ≤ q.toInt := by rw [Int32.le_iff_toInt_le, e, z0]; exact a2
  refine ⟨b1, b2, ?_, ?_⟩
  · rw [← le0_iff, b1, b2]
    omega
  · rw [← Int32.not_le, b1]
    omega
def peq (x y z : Int32) (t : Nat) : Prop := match t with
  | 0 => x = y
  | 1 => x = z
  | _ => y = z
def FxP (A : Nat → Nat → Int32) (x y z e u : Int32) (th : Prop) : Prop :=
  (Row A 0 1 0 0 x ∧ Row A 1 2 1 0 (2 * x + y) ∧ Row A 2 0 (-1) 3 (3 * z - y)) ∧ (∃ a b c, Row A 3 a b c u ∧ a * x + b * y + c * z = e) ∧ (∃ a b c f, Row A 4 a b c f ∧ a * x + b * y + c * z = f) ∧ (Row A 5 1 (-1) 0 0 ∧ Row A 6 1 0 (-1) 0 ∧ Row A 7 0 1 (-1) 0) ∧
  (A 2 0 = 2 ∧ A 2 1 = 2 ∧ A 2 2 = 2) ∧ ((A 2 3 = 1 ∧ (th ↔ (e - u).toInt ≤ 0)) ∨ (A 2 3 = 2 ∧ (th ↔ (e - u).toInt = 0))) ∧ A 2 4 = 1 ∧ (x.toInt.natAbs ≤ 16 ∧ y.toInt.natAbs ≤ 16 ∧ z.toInt.natAbs ≤ 16) ∧ (e - u).toInt.natAbs ≤ 1000
theorem sub_toInt {x y : Int32} (hx : x.toInt.natAbs ≤ 10000) (hy : y.toInt.natAbs ≤ 10000) : (x - y).toInt = x.toInt - y.toInt := by
  rw [Int32.toInt_sub]
  apply Int.bmod_eq_of_le <;> omega
theorem sub_z0 {x y : Int32} (hx : x.toInt.natAbs ≤ 16) (hy : y.toInt.natAbs ≤ 16) : (x - y).toInt.natAbs ≤ 1000 ∧ ((x - y).toInt = 0 ↔ x = y) := by
  rw [sub_toInt (by omega) (by omega)]
  refine ⟨by omega, fun h => Int32.toInt_inj.mp (by omega), fun h => by rw [h]; omega⟩
section FIX
variable {A : Nat → Nat → Int32} {cnt : Nat} {x y z e u : Int32} {th : Prop}
theorem fx_sg (h : FxP A x y z e u th) {n : Nat} (hn : CB (cC A n)) (hp : PtN A n x y z) :
    ((vC A n 3 ≤ 0 ↔ (e - u).toInt ≤ 0) ∧ (0 ≤ vC A n 3 ↔ 0 ≤ (e - u).toInt) ∧ (vC A n 3 = 0 ↔ (e - u).toInt = 0) ∧ (0 < vC A n 3 ↔ 0 < (e - u).toInt)) ∧ vC A n 4 = 0 ∧ ∀ t, t < 3 → (vC A n (5 + t) = 0 ↔ peq x y z t) := by
  obtain ⟨-, ⟨a3, b3, c3, r3, e3⟩, ⟨a4, b4, c4, f4, r4, e4⟩, ⟨r5, r6, r7⟩, -, -, -, ⟨bx, bY, bz⟩, be⟩ := h
  have w1 : 0 < (A 20 n).toInt := hn.1
  have w2 : (A 20 n).toInt ≤ 4374 := hn.2.1
  refine ⟨?_, ?_, fun t ht => ?_⟩
  · rw [v_pt r3 hp, e3]
    exact sg_w be w1 w2
  · rw [v_pt r4 hp, e4, show f4 - f4 = 0 by grind, Int32.zero_mul]
  · rcases (show t = 0 ∨ t = 1 ∨ t = 2 by omega) with rfl | rfl | rfl
    · rw [show 5 + 0 = 5 from rfl, v_pt r5 hp, show 1 * x + (-1) * y + 0 * z - 0 = x - y by grind]
      exact (sg_w (sub_z0 bx bY).1 w1 w2).2.2.1.trans (sub_z0 bx bY).2
    · rw [show 5 + 1 = 6 from rfl, v_pt r6 hp, show 1 * x + 0 * y + (-1) * z - 0 = x - z by grind]
      exact (sg_w (sub_z0 bx bz).1 w1 w2).2.2.1.trans (sub_z0 bx bz).2
    · rw [show 5 + 2 = 7 from rfl, v_pt r7 hp, show 0 * x + 1 * y + (-1) * z - 0 = y - z by grind]
      exact (sg_w (sub_z0 bY bz).1 w1 w2).2.2.1.trans (sub_z0 bY bz).2
theorem fx_fit (h : FxP A x y z e u th) {s p n : Nat} (hb : s.testBit 0 = true ∧ s.testBit 1 = true ∧ s.testBit 2 = true) (hf : FitS A s p (vC A n)) : PtN A n x y z :=
  on_pt h.1.1 h.1.2.1 h.1.2.2 (hf.2.1 0 (by decide) h.2.2.2.2.1.1 hb.1) (hf.2.1 1 (by decide) h.2.2.2.2.1.2.1 hb.2.1) (hf.2.1 2 (by decide) h.2.2.2.2.1.2.2 hb.2.2)
/-- the corner of the three equations -/
theorem fx_n0 (h : FxP A x y z e u th) (hC : CornI A cnt) : ∃ n, n < cnt ∧ PtN A n x y z ∧ vC A n 0 = 0 ∧ vC A n 1 = 0 ∧ vC A n 2 = 0 := by
  obtain ⟨⟨r0, r1, r2⟩, -, -, -, -, -, -, ⟨bx, bY, bz⟩, -⟩ := h
  have d0 : D0 A 0 1 2 = 3 := by
    unfold D0 dt
    rw [r0.1, r0.2.1, r0.2.2.1, r1.1, r1.2.1, r1.2.2.1, r2.1, r2.2.1, r2.2.2.1]
    decide
  have s3 : sgn 3 = 1 := by decide
  have ew : cw A 0 1 2 = 3 := by
    unfold cw
    rw [d0, s3]
    decide
  have ex : cx A 0 1 2 = x * 3 := by
    unfold cx
    rw [d0, s3]
    unfold dt
    rw [r0.2.1, r0.2.2.1, r0.2.2.2, r1.2.1, r1.2.2.1, r1.2.2.2, r2.2.1, r2.2.2.1, r2.2.2.2]
    grind
  have ey : cy A 0 1 2 = y * 3 := by
    unfold cy
    rw [d0, s3]
    unfold dt
    rw [r0.1, r0.2.2.1, r0.2.2.2, r1.1, r1.2.2.1, r1.2.2.2, r2.1, r2.2.2.1, r2.2.2.2]
    grind
  have ez : cz A 0 1 2 = z * 3 := by
    unfold cz
    rw [d0, s3]
    unfold dt
    rw [r0.1, r0.2.1, r0.2.2.2, r1.1, r1.2.1, r1.2.2.2, r2.1, r2.2.1, r2.2.2.2]
    grind
  have hw : ∀ v : Int32, v.toInt.natAbs ≤ 16 → wth (v * 3) (20 * 3) := fun v hv => by
    have h3 : (3 : Int32).toInt = 3 := by decide
    have e1 : (v * 3).toInt = v.toInt * 3 := by
      rw [Int32.toInt_mul, h3]
      apply Int.bmod_eq_of_le <;> omega
    have e2 : (-(20 * 3) : Int32).toInt = -60 := by decide
    have e3 : (20 * 3 : Int32).toInt = 60 := by decide
    constructor
    · rw [Int32.le_iff_toInt_le, e1, e2]; omega
    · rw [Int32.le_iff_toInt_le, e1, e3]; omega
  have hin : InB A 0 1 2 := by
    refine ⟨by rw [d0]; decide, ?_, ?_, ?_⟩
    · rw [ex, ew]; exact hw x bx
    · rw [ey, ew]; exact hw y bY
    · rw [ez, ew]; exact hw z bz
  obtain ⟨n, hn, a1, a2, a3, a4, -⟩ := hC.1 0 1 2 (by decide) (by decide) (by decide) hin
  have hp : PtN A n x y z := by
    unfold PtN
    rw [a1, a2, a3, a4, ex, ey, ez, ew]
    exact ⟨rfl, rfl, rfl⟩
  refine ⟨n, hn, hp, ?_, ?_, ?_⟩
  · rw [v_pt r0 hp, show 1 * x + 0 * y + 0 * z - x = 0 by grind, Int32.zero_mul]
  · rw [v_pt r1 hp, show 2 * x + 1 * y + 0 * z - (2 * x + y) = 0 by grind, Int32.zero_mul]
  · rw [v_pt r2 hp, show 0 * x + (-1) * y + 3 * z - (3 * z - y) = 0 by grind, Int32.zero_mul]
theorem fx_no3 (h : FxP A x y z e u th) : ∀ k, k < 5 → ¬ A 2 k = 3 := by
  obtain ⟨-, -, -, -, ⟨k0, k1, k2⟩, k3, k4, -⟩ := h
  intro k hk
  rcases (show k = 0 ∨ k = 1 ∨ k = 2 ∨ k = 3 ∨ k = 4 by omega) with rfl | rfl | rfl | rfl | rfl
  · rw [k0]; decide
  · rw [k1]; decide
  · rw [k2]; decide
  · rcases k3 with ⟨q, -⟩ | ⟨q, -⟩ <;> rw [q] <;> decide
  · rw [k4]; decide
theorem fx_open (h : FxP A x y z e u th) (hC : CornI A cnt) (hCB : ∀ n, n < cnt → CB (cC A n)) {s p : Nat} (hb : s.testBit 0 = true ∧ s.testBit 1 = true ∧ s.testBit 2 = true) : Opn A s p cnt ↔ ((s.testBit 3 = true ↔ th) ∧ s.testBit 4 = true ∧ ∀ t, t < 3 → (PEq p t ↔ peq x y z t)) := by
  have hno := fx_no3 h
  have hhas : HasF A s p := fun k hk m hm hc => hno k hk hc.1
  have hk := h.2.2.2.2
  unfold Opn
  rw [HavP_iff hC.sd s p]
  constructor
  · rintro ⟨-, ⟨n, hn, hf⟩, hS⟩
    have hp := fx_fit h hb hf
    obtain ⟨⟨q1, q2, q3, q4⟩, q5, q6⟩ := fx_sg h (hCB n hn) hp
    have hall : ∀ m, m < cnt → FitS A s p (vC A m) → ((0 < vC A m 3 ↔ 0 < (e - u).toInt) ∧ (vC A m 3 = 0 ↔ (e - u).toInt = 0)) ∧ vC A m 4 = 0 ∧ ∀ t, t < 3 → (vC A m (5 + t) = 0 ↔ peq x y z t) := fun m hm hfm => by
      obtain ⟨⟨-, -, z3, z4⟩, z5, z6⟩ := fx_sg h (hCB m hm) (fx_fit h hb hfm)
      exact ⟨⟨z4, z3⟩, z5, z6⟩
    refine ⟨?_, ?_, fun t ht => ⟨fun hpe => ?_, fun hq => ?_⟩⟩
    · rcases hk.2.1 with ⟨k3, ht⟩ | ⟨k3, ht⟩
      · rw [ht]
        constructor
        · intro b3
          exact q1.mp ((hf.1 3 (by decide) k3).1 b3)
        · intro hle
          refine Classical.byContradiction fun b3 => ?_
          obtain ⟨m, hm, hfm, hv⟩ := hS.1 3 (by decide) k3 b3
          have := (hall m hm hfm).1.1.mp hv
          omega
      · rw [ht]
        constructor
        · intro b3
          exact q3.mp (hf.2.1 3 (by decide) k3 b3)
        · intro hz
          refine Classical.byContradiction fun b3 => ?_
          obtain ⟨m, hm, hfm, hv⟩ := hS.2.1 3 (by decide) k3 b3
          exact hv ((hall m hm hfm).1.2.mpr hz)
    · refine Classical.byContradiction fun b4 => ?_
      obtain ⟨m, hm, hfm, hv⟩ := hS.1 4 (by decide) hk.2.2.1 b4
      rw [(hall m hm hfm).2.1] at hv
      exact absurd hv (by decide)
    · exact (q6 t ht).mp (hf.2.2 t ht hpe)
    · refine Classical.byContradiction fun hpe => ?_
      obtain ⟨m, hm, hfm, hv⟩ := hS.2.2 t ht hpe
      exact hv (((hall m hm hfm).2.2 t ht).mpr hq)
  · rintro ⟨g3, g4, g5⟩
    obtain ⟨n, hn, hp, v0, v1, v2⟩ := fx_n0 h hC
    obtain ⟨⟨q1, q2, q3, q4⟩, q5, q6⟩ := fx_sg h (hCB n hn) hp
    have c5 : ∀ k, k < 5 → k = 0 ∨ k = 1 ∨ k = 2 ∨ k = 3 ∨ k = 4 := fun k hk => by omega
    have hf : FitS A s p (vC A n) := by
      refine ⟨fun k hk5 hk1 => ?_, fun k hk5 hk2 hbk => ?_, fun t ht hpe => ?_⟩
      · rcases c5 k hk5 with rfl | rfl | rfl | rfl | rfl
        · rw [hk.1.1] at hk1; exact absurd hk1 (by decide)
        · rw [hk.1.2.1] at hk1; exact absurd hk1 (by decide)
        · rw [hk.1.2.2] at hk1; exact absurd hk1 (by decide)
        · rcases hk.2.1 with ⟨-, ht⟩ | ⟨k3, -⟩
          · rw [q1, q2, g3, ht]
            exact ⟨fun z => z, fun z => by omega⟩
          · rw [k3] at hk1; exact absurd hk1 (by decide)
        · rw [q5]
          exact ⟨fun _ => by decide, fun _ => by decide⟩
      · rcases c5 k hk5 with rfl | rfl | rfl | rfl | rfl
        · exact v0
        · exact v1
        · exact v2
        · rcases hk.2.1 with ⟨k3, -⟩ | ⟨-, ht⟩
          · rw [k3] at hk2; exact absurd hk2 (by decide)
          · exact q3.mpr (ht.mp (g3.mp hbk))
        · rw [hk.2.2.1] at hk2; exact absurd hk2 (by decide)
      · exact (q6 t ht).mpr ((g5 t ht).mp hpe)
    refine ⟨hhas, ⟨n, hn, hf⟩, fun k hk5 hk1 hbk => ⟨n, hn, hf, ?_⟩, fun k hk5 hk2 hbk => ⟨n, hn, hf, ?_⟩, fun t ht hpe => ⟨n, hn, hf, fun zz => hpe ((g5 t ht).mpr ((q6 t ht).mp zz))⟩⟩
    · rcases c5 k hk5 with rfl | rfl | rfl | rfl | rfl
      · exact absurd hb.1 hbk
      · exact absurd hb.2.1 hbk
      · exact absurd hb.2.2 hbk
      · rcases hk.2.1 with ⟨-, ht⟩ | ⟨k3, -⟩
        · rw [q4]
          rw [g3, ht] at hbk
          omega
        · rw [k3] at hk1; exact absurd hk1 (by decide)
      · exact absurd g4 hbk
    · rcases c5 k hk5 with rfl | rfl | rfl | rfl | rfl
      · exact absurd hb.1 hbk
      · exact absurd hb.2.1 hbk
      · exact absurd hb.2.2 hbk
      · rcases hk.2.1 with ⟨k3, -⟩ | ⟨-, ht⟩
        · rw [k3] at hk2; exact absurd hk2 (by decide)
        · rw [g3, ht] at hbk
          exact fun zz => hbk (q3.mp zz)
      · exact absurd g4 hbk
end FIX
theorem peq_p (x y z : Int32) : ∃ p, p < 5 ∧ ∀ t, t < 3 → (PEq p t ↔ peq x y z t) := by
  have hp : ∀ p t, PEq p t ↔ grp p (prt 100 t) = grp p (prt 101 t) := fun p t => Iff.rfl
  by_cases e1 : x = y
  · by_cases e2 : x = z
    · refine ⟨4, by decide, fun t ht => ?_⟩
      rw [hp]
      rcases (show t = 0 ∨ t = 1 ∨ t = 2 by omega) with rfl | rfl | rfl
      · exact iff_of_true (by decide) e1
      · exact iff_of_true (by decide) e2
      · exact iff_of_true (by decide) (e1.symm.trans e2)
    · refine ⟨1, by decide, fun t ht => ?_⟩
      rw [hp]
      rcases (show t = 0 ∨ t = 1 ∨ t = 2 by omega) with rfl | rfl | rfl
      · exact iff_of_true (by decide) e1
      · exact iff_of_false (by decide) e2
      · exact iff_of_false (by decide) (fun e3 => e2 (e1.trans e3))
  · by_cases e2 : x = z
    · refine ⟨2, by decide, fun t ht => ?_⟩
      rw [hp]
      rcases (show t = 0 ∨ t = 1 ∨ t = 2 by omega) with rfl | rfl | rfl
      · exact iff_of_false (by decide) e1
      · exact iff_of_true (by decide) e2
      · exact iff_of_false (by decide) (fun e3 => e1 (e2.trans (show z = y from e3.symm)))
    · by_cases e3 : y = z
      · refine ⟨3, by decide, fun t ht => ?_⟩
        rw [hp]
        rcases (show t = 0 ∨ t = 1 ∨ t = 2 by omega) with rfl | rfl | rfl
        · exact iff_of_false (by decide) e1
        · exact iff_of_false (by decide) e2
        · exact iff_of_true (by decide) e3
      · refine ⟨0, by decide, fun t ht => ?_⟩
        rw [hp]
        rcases (show t = 0 ∨ t = 1 ∨ t = 2 by omega) with rfl | rfl | rfl
        · exact iff_of_false (by decide) e1
        · exact iff_of_false (by decide) e2
        · exact iff_of_false (by decide) e3
