/-! ===== three equations: the desk behind its clauses ===== -/
def FxA (A : Nat → Nat → Int32) (x y z e u : Int32) (th : Prop) : Prop :=
  (row3 A 0 = (1, 0, 0, x) ∧ row3 A 1 = (2, 1, 0, 2 * x + y) ∧ row3 A 2 = (0, -1, 3, 3 * z - y)) ∧ (∃ a b c, row3 A 3 = (a, b, c, u) ∧ a * x + b * y + c * z = e) ∧ (∃ a b c f, row3 A 4 = (a, b, c, f) ∧ a * x + b * y + c * z = f) ∧
  (A 2 0 = 2 ∧ A 2 1 = 2 ∧ A 2 2 = 2) ∧ ((A 2 3 = 1 ∧ (th ↔ (e - u).toInt ≤ 0)) ∨ (A 2 3 = 2 ∧ (th ↔ (e - u).toInt = 0))) ∧ A 2 4 = 1 ∧ (x.toInt.natAbs ≤ 16 ∧ y.toInt.natAbs ≤ 16 ∧ z.toInt.natAbs ≤ 16) ∧ (e - u).toInt.natAbs ≤ 1000
def Cl3 (A : Nat → Nat → Int32) : Prop := ∀ i, i < 3 → A 10 (i * 3) = nI (2 * i) ∧ A 10 (i * 3 + 1) = -1 ∧ A 10 (i * 3 + 2) = -1
def Fin3 (B : Nat → Nat → Int32) (cnt : Nat) (x y z e u : Int32) (th : Prop) : Prop := Std B 31 3 cnt ∧ Nrr B ∧ FxP B x y z e u th ∧ Cl3 B ∧ B 9 3 = 0
theorem row_of {A B : Nat → Nat → Int32} {cnt : Nat} (hC : CacheI B cnt) (hr : RfF A B) {k : Nat} (hk : k < 5) {a b c d : Int32} (h : row3 A k = (a, b, c, d)) : Row B k a b c d := by
  obtain ⟨a1, a2, a3, a4⟩ := hC.2.2.1 k hk
  unfold row3 at h
  have h1 : A 3 k = a := congrArg (fun q => q.1) h
  have h2 : A 4 k = b := congrArg (fun q => q.2.1) h
  have h3 : A 5 k = c := congrArg (fun q => q.2.2.1) h
  have h4 : A 6 k = d := congrArg (fun q => q.2.2.2) h
  refine ⟨?_, ?_, ?_, ?_⟩
  · rw [a1, hr.1 3 (by decide) (by decide), h1]
  · rw [a2, hr.1 4 (by decide) (by decide), h2]
  · rw [a3, hr.1 5 (by decide) (by decide), h3]
  · rw [a4, hr.1 6 (by decide) (by decide), h4]
theorem row_fx {B : Nat → Nat → Int32} (hN : Nrr B) {p : Nat} (h5 : 5 ≤ p) (h14 : p < 14) {a b c d : Int32} (h : fx9 (fxi p) = (a, b, c, d)) : Row B p a b c d := by
  have e := (hN.2 p h5 h14).trans h
  unfold RC at e
  exact ⟨congrArg (fun q => q.1) e, congrArg (fun q => q.2.1) e, congrArg (fun q => q.2.2.1) e, congrArg (fun q => q.2.2.2) e⟩
theorem fin_of {A B : Nat → Nat → Int32} {cnt : Nat} {x y z e u : Int32} {th : Prop} (hK : KI A 31 3) (h93 : A 9 3 = 0) (hN : Nrr A) (hA : FxA A x y z e u th) (hc : Cl3 A) (hC : CacheI B cnt) (hr : RfF A B) (h05 : B 0 5 = 0) : Fin3 B cnt x y z e u th := by
  have hNB := hN.rf hr
  obtain ⟨⟨r0, r1, r2⟩, ⟨a3, b3, c3, r3, e3⟩, ⟨a4, b4, c4, f4, r4, e4⟩, hk, hk3, hk4, hb, hb2⟩ := hA
  have e2 := hr.1 2 (by decide) (by decide)
  have e10 := hr.1 10 (by decide) (by decide)
  refine ⟨⟨hK.rf hr, hC, h05⟩, hNB, ⟨⟨row_of hC hr (by decide) r0, row_of hC hr (by decide) r1, row_of hC hr (by decide) r2⟩, ⟨a3, b3, c3, row_of hC hr (by decide) r3, e3⟩, ⟨a4, b4, c4, f4, row_of hC hr (by decide) r4, e4⟩, ⟨row_fx hNB (by decide) (by decide) rfl, row_fx hNB (by decide) (by decide) rfl, row_fx hNB (by decide) (by decide) rfl⟩, ?_, ?_, ?_, hb, hb2⟩, ?_, ?_⟩
  · rw [e2]; exact hk
  · rw [e2]; exact hk3
  · rw [e2]; exact hk4
  · unfold Cl3
    rw [e10]; exact hc
  · rw [hr.1 9 (by decide) (by decide)]; exact h93
section FIN
variable {B : Nat → Nat → Int32} {cnt : Nat} {x y z e u : Int32} {th : Prop}
theorem bits_31 : ∀ s, s < 32 → s.testBit 0 = true → s.testBit 1 = true → s.testBit 2 = true → s.testBit 4 = true → s = if s.testBit 3 = true then 31 else 23 := by decide
theorem Fin3.wd (h : Fin3 B cnt x y z e u th) {s0 : Nat} (h0 : (th ∧ s0 = 31) ∨ (¬ th ∧ s0 = 23)) : ∀ s, s < 32 → (Wd B 31 3 s ↔ s = s0) := by
  obtain ⟨hS, hN, hF, hc, -⟩ := h
  have hCB := hN.cb hS.2.1
  intro s hs
  have hsat : SatC B s 3 ↔ (s.testBit 0 = true ∧ s.testBit 1 = true ∧ s.testBit 2 = true) := by
    have hl : ∀ i, i < 3 → (ClS B s (i * 3) ↔ s.testBit i = true) := fun i hi => by
      obtain ⟨z1, z2, z3⟩ := hc i hi
      rw [ClS_1 (show 2 * i < 10 by omega) z1 z2 z3]
      unfold HL
      rw [show 2 * i / 2 = i by omega, show 2 * i % 2 = 0 by omega]
      exact ⟨fun z => z.mpr rfl, fun z => ⟨fun _ => rfl, fun _ => z⟩⟩
    constructor
    · intro z
      exact ⟨(hl 0 (by decide)).mp (z 0 (by decide)), (hl 1 (by decide)).mp (z 1 (by decide)), (hl 2 (by decide)).mp (z 2 (by decide))⟩
    · rintro ⟨z0, z1, z2⟩ n hn
      rcases (show n = 0 ∨ n = 1 ∨ n = 2 by omega) with rfl | rfl | rfl
      · exact (hl 0 (by decide)).mpr z0
      · exact (hl 1 (by decide)).mpr z1
      · exact (hl 2 (by decide)).mpr z2
  have hop : ∀ p, p < 5 → (s.testBit 0 = true ∧ s.testBit 1 = true ∧ s.testBit 2 = true) → (¬ B 23 (s * 5 + p) = 0 ↔ ((s.testBit 3 = true ↔ th) ∧ s.testBit 4 = true ∧ ∀ t, t < 3 → (PEq p t ↔ peq x y z t))) := fun p hp hb => by
    rw [(hS.2.1.2.2.2.2 s p hs hp).2.2, bi_n]
    exact fx_open hF hS.2.1.2.2.2.1 hCB hb
  constructor
  · rintro ⟨-, ⟨p, hp, ho⟩, hsa⟩
    have hb := hsat.mp hsa
    obtain ⟨g3, g4, -⟩ := (hop p hp hb).mp ho
    have := bits_31 s hs hb.1 hb.2.1 hb.2.2 g4
    rcases h0 with ⟨ht, rfl⟩ | ⟨ht, rfl⟩
    · rw [if_pos (g3.mpr ht)] at this
      exact this
    · rw [if_neg (fun zz => ht (g3.mp zz))] at this
      exact this
  · intro hs0
    obtain ⟨p, hp, hpe⟩ := peq_p x y z
    have hb : s.testBit 0 = true ∧ s.testBit 1 = true ∧ s.testBit 2 = true := by
      rcases h0 with ⟨-, rfl⟩ | ⟨-, rfl⟩ <;> (subst hs0; decide)
    have h4 : s.testBit 4 = true := by
      rcases h0 with ⟨-, rfl⟩ | ⟨-, rfl⟩ <;> (subst hs0; decide)
    have h3 : s.testBit 3 = true ↔ th := by
      rcases h0 with ⟨ht, rfl⟩ | ⟨ht, rfl⟩
      · subst hs0
        exact iff_of_true (by decide) ht
      · subst hs0
        exact iff_of_false (by decide) ht
    have h31 : s &&& 31 = s := by
      rcases h0 with ⟨-, rfl⟩ | ⟨-, rfl⟩ <;> (subst hs0; decide)
    exact ⟨h31, ⟨p, hp, (hop p hp hb).mpr ⟨h3, h4, hpe⟩⟩, hsat.mpr hb⟩
theorem Fin3.pt (h : Fin3 B cnt x y z e u th) {s p n : Nat} (hc : Cel B 31 3 s p) (hf : Fts B s p n) : PtN B n x y z := by
  obtain ⟨hS, hN, hF, hcl, -⟩ := h
  have hl : ∀ i, i < 3 → s.testBit i = true := fun i hi => by
    obtain ⟨z1, z2, z3⟩ := hcl i hi
    have := (ClS_1 (show 2 * i < 10 by omega) z1 z2 z3).mp (hc.2.2.1.2.2 i hi)
    unfold HL at this
    rw [show 2 * i / 2 = i by omega, show 2 * i % 2 = 0 by omega] at this
    exact this.mpr rfl
  exact fx_fit hF ⟨hl 0 (by decide), hl 1 (by decide), hl 2 (by decide)⟩ hf
theorem Fin3.cel (h : Fin3 B cnt x y z e u th) {s0 : Nat} (h0 : (th ∧ s0 = 31) ∨ (¬ th ∧ s0 = 23)) : ∃ p, Cel B 31 3 s0 p := by
  have hs : s0 < 32 := by rcases h0 with ⟨-, rfl⟩ | ⟨-, rfl⟩ <;> decide
  have hw := (h.wd h0 s0 hs).mpr rfl
  obtain ⟨p, hp, ho⟩ := hw.2.1
  exact ⟨p, hs, hp, hw, ho⟩
/-- the value of a form at the point -/
def vP (a b c x y z : Int32) : Int := a.toInt * x.toInt + b.toInt * y.toInt + c.toInt * z.toInt
theorem mulI {x w : Int32} (hx : x.toInt.natAbs ≤ 16) (hw : w.toInt.natAbs ≤ 4374) : (x * w).toInt = x.toInt * w.toInt := by
  have hb : (x.toInt * w.toInt).natAbs ≤ 16 * 4374 := mulb hx hw
  rw [Int32.toInt_mul]
  apply Int.bmod_eq_of_le <;> omega
theorem nm_pt (hb : x.toInt.natAbs ≤ 16 ∧ y.toInt.natAbs ≤ 16 ∧ z.toInt.natAbs ≤ 16) {n : Nat} (hn : CB (cC B n)) (hp : PtN B n x y z) (a b c : Int32) : nm a b c (cC B n) = vP a b c x y z * dn (cC B n) := by
  have w1 : 0 < (B 20 n).toInt := hn.1
  have w2 : (B 20 n).toInt ≤ 4374 := hn.2.1
  unfold nm dn vP
  show a.toInt * (B 17 n).toInt + b.toInt * (B 18 n).toInt + c.toInt * (B 19 n).toInt = _ * (B 20 n).toInt
  rw [hp.1, hp.2.1, hp.2.2, mulI hb.1 (by omega), mulI hb.2.1 (by omega), mulI hb.2.2 (by omega)]
  grind
theorem vP_b (hb : x.toInt.natAbs ≤ 16 ∧ y.toInt.natAbs ≤ 16 ∧ z.toInt.natAbs ≤ 16) {a b c : Int32} (hf : f9 a ∧ f9 b ∧ f9 c) : (vP a b c x y z).natAbs ≤ 432 :=
  addb (addb (mulb (f9_int hf.1) hb.1) (mulb (f9_int hf.2.1) hb.2.1)) (mulb (f9_int hf.2.2) hb.2.2)
theorem Fin3.bx (h : Fin3 B cnt x y z e u th) : x.toInt.natAbs ≤ 16 ∧ y.toInt.natAbs ≤ 16 ∧ z.toInt.natAbs ≤ 16 := h.2.2.1.2.2.2.2.2.2.2.1
theorem most_pt (h : Fin3 B cnt x y z e u th) {s0 : Nat} (h0 : (th ∧ s0 = 31) ∨ (¬ th ∧ s0 = 23)) {a b c : Int32} (hf : f9 a ∧ f9 b ∧ f9 c) {t : Tr} (hP : PkI B a b c cnt (Cel B 31 3) t) {n0 w0 : Nat} (hN : NumOk t n0 w0) : rdo t n0 w0 = Int64.ofInt (vP a b c x y z) ∧ rdu t n0 w0 = 1 ∧ mov t = 2 := by
  have hCB := h.2.1.cb h.1.2.1
  have hb := h.bx
  obtain ⟨p0, hc0⟩ := h.cel h0
  have hop : Opn B s0 p0 cnt := by
    have := hc0.2.2.2
    rw [(h.1.2.1.2.2.2.2 s0 p0 hc0.1 hc0.2.1).2.2] at this
    exact bi_n.mp this
  obtain ⟨⟨q, hq1, hq2⟩, hS⟩ := (HavP_iff h.1.2.1.2.2.2.1.sd s0 p0).mp hop.2
  rcases hP with ⟨h1, -⟩ | ⟨m, g1, ⟨s1, p1, k0, k1⟩, g3, g4, g5, g6, g7⟩
  · exact absurd hq2 (h1 s0 p0 hc0 q hq1)
  · have bm := hCB m g1
    have em := nm_pt hb bm (h.pt k0 k1) a b c
    have d1 := bm.1
    have d2 := bm.2.1
    obtain ⟨z1, z2⟩ := rd_of hf bm hN g3 g4
    have hg : (nm a b c (cC B m)).natAbs.gcd (dn (cC B m)).toNat = (dn (cC B m)).toNat := by
      rw [em, Int.natAbs_mul, show (dn (cC B m)).natAbs = (dn (cC B m)).toNat by omega]
      exact Nat.gcd_mul_left_left _ _
    rw [hg] at z1 z2
    unfold N6 at z1
    unfold W6 at z2
    have bv := vP_b hb hf
    have bq := nm_b hf bm
    rw [div64 (k := vP a b c x y z) (by omega) (by rw [em, show ((dn (cC B m)).toNat : Int) = dn (cC B m) by omega]) bq (by omega)] at z1
    rw [div64 (k := 1) (by omega) (by omega) (by omega) (by omega)] at z2
    have hr : t.2.2 = 1 := by
      refine g7.mpr ⟨s0, p0, hc0, ?_⟩
      have hl : ∀ n, n < cnt → Fts B s0 p0 n → lq a b c (cC B m) (cC B n) := fun n hn hfn => by
        unfold lq
        rw [em, nm_pt hb (hCB n hn) (h.pt hc0 hfn) a b c]
        have : vP a b c x y z * dn (cC B m) * dn (cC B n) = vP a b c x y z * dn (cC B n) * dn (cC B m) := by grind
        omega
      refine ⟨⟨q, hq1, hq2, hl q hq1 hq2⟩, (SidS_P fun n hn => ?_).mp hS⟩
      exact ⟨fun zz => ⟨zz, hl n hn zz⟩, fun zz => zz.1⟩
    refine ⟨z1, z2, ?_⟩
    unfold mov
    rw [if_pos (by rw [g4]; exact W6_pos bm), hr]
    decide
theorem bnd_pt (h : Fin3 B cnt x y z e u th) {s0 : Nat} (h0 : (th ∧ s0 = 31) ∨ (¬ th ∧ s0 = 23)) {a b c : Int32} (hf : f9 a ∧ f9 b ∧ f9 c) {t : Tr} (hP : PkI B a b c cnt (Cel B 31 3) t) {v : Int} (hv : v.natAbs ≤ 200) : t.1 ≤ Int64.ofInt v * t.2.1 ↔ vP a b c x y z ≤ v := by
  have hCB := h.2.1.cb h.1.2.1
  have hb := h.bx
  obtain ⟨p0, hc0⟩ := h.cel h0
  have hop : Opn B s0 p0 cnt := by
    have := hc0.2.2.2
    rw [(h.1.2.1.2.2.2.2 s0 p0 hc0.1 hc0.2.1).2.2] at this
    exact bi_n.mp this
  obtain ⟨⟨q, hq1, hq2⟩, hS⟩ := (HavP_iff h.1.2.1.2.2.2.1.sd s0 p0).mp hop.2
  rcases hP with ⟨h1, -⟩ | ⟨m, g1, ⟨s1, p1, k0, k1⟩, g3, g4, -⟩
  · exact absurd hq2 (h1 s0 p0 hc0 q hq1)
  · have bm := hCB m g1
    have em := nm_pt hb bm (h.pt k0 k1) a b c
    have d1 := bm.1
    have d2 := bm.2.1
    have bq := nm_b hf bm
    have zD : (v * dn (cC B m)).natAbs ≤ 200 * 4374 := mulb hv (by omega)
    rw [g3, g4]
    unfold N6 W6
    rw [← Int64.ofInt_mul, Int64.le_iff_toInt_le, s64 bq (by decide), s64 zD (by decide), em]
    exact le_c d1
end FIN
theorem f99_of {x : Int32} (h : x.toInt.natAbs ≤ 99) : f99 x := by
  have e1 : (-99 : Int32).toInt = -99 := by decide
  have e2 : (99 : Int32).toInt = 99 := by decide
  constructor
  · rw [Int32.le_iff_toInt_le, e1]; omega
  · rw [Int32.le_iff_toInt_le, e2]; omega
theorem addI {a b : Int32} (ha : a.toInt.natAbs ≤ 10000) (hb : b.toInt.natAbs ≤ 10000) : (a + b).toInt = a.toInt + b.toInt := by
  rw [Int32.toInt_add]
  apply Int.bmod_eq_of_le <;> omega
theorem mulI2 {a b : Int32} (ha : a.toInt.natAbs ≤ 9) (hb : b.toInt.natAbs ≤ 16) : (a * b).toInt = a.toInt * b.toInt ∧ (a * b).toInt.natAbs ≤ 144 := by
  have h : (a.toInt * b.toInt).natAbs ≤ 9 * 16 := mulb ha hb
  have e : (a * b).toInt = a.toInt * b.toInt := by
    rw [Int32.toInt_mul]
    apply Int.bmod_eq_of_le <;> omega
  exact ⟨e, by rw [e]; omega⟩
theorem b16 (v : Int32) : ((v &&& 31) - 15).toInt.natAbs ≤ 16 := by
  obtain ⟨j, h1, h2⟩ := andk v 31 (by decide)
  rw [show v &&& 31 = nI j from h2]
  have h : ∀ j, j < 32 → (nI j - 15).toInt.natAbs ≤ 16 := by decide +kernel
  exact h j (by omega)
theorem form_I {a b c x y z : Int32} (hf : f9 a ∧ f9 b ∧ f9 c) (hb : x.toInt.natAbs ≤ 16 ∧ y.toInt.natAbs ≤ 16 ∧ z.toInt.natAbs ≤ 16) : (a * x + b * y + c * z).toInt = vP a b c x y z ∧ (a * x + b * y + c * z).toInt.natAbs ≤ 432 := by
  obtain ⟨e1, n1⟩ := mulI2 (f9_int hf.1) hb.1
  obtain ⟨e2, n2⟩ := mulI2 (f9_int hf.2.1) hb.2.1
  obtain ⟨e3, n3⟩ := mulI2 (f9_int hf.2.2) hb.2.2
  have e4 : (a * x + b * y).toInt = (a * x).toInt + (b * y).toInt := addI (by omega) (by omega)
  have e5 : (a * x + b * y + c * z).toInt = (a * x + b * y).toInt + (c * z).toInt := addI (by omega) (by omega)
  have e6 : (a * x + b * y + c * z).toInt = vP a b c x y z := by
    rw [e5, e4, e1, e2, e3]
    rfl
  exact ⟨e6, by omega⟩
theorem d_1 {x y z : Int32} (hb : x.toInt.natAbs ≤ 16 ∧ y.toInt.natAbs ≤ 16 ∧ z.toInt.natAbs ≤ 16) : f99 x ∧ f99 (2 * x + y) ∧ f99 (3 * z - y) := by
  have m2 := mulI2 (a := 2) (b := x) (by decide) hb.1
  have m3 := mulI2 (a := 3) (b := z) (by decide) hb.2.2
  have t2 : (2 : Int32).toInt = 2 := by decide
  have t3 : (3 : Int32).toInt = 3 := by decide
  rw [t2] at m2
  rw [t3] at m3
  refine ⟨f99_of (by omega), f99_of ?_, f99_of ?_⟩
  · rw [addI (by omega) (by omega)]
    omega
  · rw [sub_toInt (by omega) (by omega)]
    omega
theorem f99_I {u : Int32} (h : f99 u) : u.toInt.natAbs ≤ 99 := by
  have e1 : (-99 : Int32).toInt = -99 := by decide
  have e2 : (99 : Int32).toInt = 99 := by decide
  have h1 := Int32.le_iff_toInt_le.mp h.1
  have h2 := Int32.le_iff_toInt_le.mp h.2
  rw [e1] at h1
  rw [e2] at h2
  omega
theorem eu_d {e u : Int32} (he : e.toInt.natAbs ≤ 432) (hu : u.toInt.natAbs ≤ 99) : (e - u).toInt = e.toInt - u.toInt ∧ (e - u).toInt.natAbs ≤ 1000 := by
  have := sub_toInt (x := e) (y := u) (by omega) (by omega)
  exact ⟨this, by omega⟩
