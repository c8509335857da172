/-! ===== fractions of corners ===== -/
def nm (a b c : Int32) (q : Crn) : Int := a.toInt * q.1.toInt + b.toInt * q.2.1.toInt + c.toInt * q.2.2.1.toInt
def dn (q : Crn) : Int := q.2.2.2.toInt
def CB (q : Crn) : Prop := 0 < dn q ∧ dn q ≤ 4374 ∧ q.1.toInt.natAbs ≤ 87480 ∧ q.2.1.toInt.natAbs ≤ 87480 ∧ q.2.2.1.toInt.natAbs ≤ 87480
def lq (a b c : Int32) (q r : Crn) : Prop := nm a b c q * dn r ≤ nm a b c r * dn q
theorem lq_tr {a b c : Int32} {p q r : Crn} (hq : 0 < dn q) (hp : 0 < dn p) (hr : 0 < dn r) (h1 : lq a b c p q) (h2 : lq a b c q r) : lq a b c p r := by
  unfold lq at h1 h2 ⊢
  generalize nm a b c p = x at *
  generalize nm a b c q = y at *
  generalize nm a b c r = z at *
  have e1 := Int.mul_le_mul_of_nonneg_right h1 (Int.le_of_lt hr)
  have e2 := Int.mul_le_mul_of_nonneg_right h2 (Int.le_of_lt hp)
  have e3 : (x * dn r) * dn q ≤ (z * dn p) * dn q := by
    have f1 : x * dn r * dn q = x * dn q * dn r := by grind
    have f2 : z * dn p * dn q = z * dn q * dn p := by grind
    have f3 : y * dn p * dn r = y * dn r * dn p := by grind
    omega
  exact Int.le_of_mul_le_mul_right e3 hq
theorem lq_tot (a b c : Int32) (q r : Crn) : lq a b c q r ∨ lq a b c r q := Int.le_total _ _
theorem lq_rf (a b c : Int32) (q : Crn) : lq a b c q q := Int.le_refl _
def N6 (a b c : Int32) (q : Crn) : Int64 := Int64.ofInt (nm a b c q)
def W6 (q : Crn) : Int64 := Int64.ofInt (dn q)
theorem nm_b {a b c : Int32} {q : Crn} (hf : f9 a ∧ f9 b ∧ f9 c) (h : CB q) : (nm a b c q).natAbs ≤ 2361960 := by
  have h1 := mulb (f9_int hf.1) h.2.2.1
  have h2 := mulb (f9_int hf.2.1) h.2.2.2.1
  have h3 := mulb (f9_int hf.2.2) h.2.2.2.2
  exact addb (addb h1 h2) h3
theorem s64 {X : Int} {m : Nat} (h : X.natAbs ≤ m) (hm : m < 2 ^ 62) : (Int64.ofInt X).toInt = X := by
  apply Int64.toInt_ofInt_of_le
  · omega
  · omega
theorem to64 (x : Int32) : x.toInt64 = Int64.ofInt x.toInt := by
  apply Int64.toInt_inj.mp
  rw [Int32.toInt_toInt64, s64 (m := 2 ^ 31) _ (by decide)]
  have h1 := Int32.toInt_lt x
  have h2 := Int32.le_toInt x
  omega
theorem vS_N {A : Nat → Nat → Int32} (a b c : Int32) (n : Nat) : vS A a b c n = N6 a b c (cC A n) ∧ dS A n = W6 (cC A n) := by
  unfold vS dS N6 W6 nm dn cC
  simp only [to64, ← Int64.ofInt_mul, ← Int64.ofInt_add]
  exact ⟨trivial, trivial⟩
theorem vM_N {A : Nat → Nat → Int32} (a b c : Int32) (n : Nat) : vM A a b c n = N6 a b c (cQ A n) ∧ dnM A n = W6 (cQ A n) := by
  unfold vM dnM N6 W6 nm dn cQ
  simp only [to64, ← Int64.ofInt_mul, ← Int64.ofInt_add]
  exact ⟨trivial, trivial⟩
theorem upM_N {A : Nat → Nat → Int32} {a b c : Int32} {n : Nat} (hf : f9 a ∧ f9 b ∧ f9 c) (h : CB (cQ A n)) : upM A a b c n = N6 a b c (cQ A n) := by
  have hb := nm_b hf h
  unfold upM N6
  rw [to64]
  have e : (((a * (A 33 (4 * n))) + (b * (A 33 ((4 * n) + 1)))) + (c * (A 33 ((4 * n) + 2)))) = Int32.ofInt (nm a b c (cQ A n)) := by
    unfold nm cQ
    simp only [Int32.ofInt_add, Int32.ofInt_mul, Int32.ofInt_toInt]
  rw [e, small_toInt hb (by decide)]
theorem cross {a b c : Int32} {q r : Crn} (hf : f9 a ∧ f9 b ∧ f9 c) (hq : CB q) (hr : CB r) : (N6 a b c q * W6 r).toInt = nm a b c q * dn r := by
  unfold N6 W6
  rw [← Int64.ofInt_mul]
  have h1 := nm_b hf hq
  have h2 : (dn r).natAbs ≤ 4374 := by have := hr.1; have := hr.2.1; omega
  exact s64 (mulb h1 h2) (by decide)
theorem W6_ne {q : Crn} (h : CB q) : ¬ W6 q = 0 := by
  intro z
  have h2 : (dn q).natAbs ≤ 4374 := by have := h.1; have := h.2.1; omega
  have e : (W6 q).toInt = dn q := s64 h2 (by decide)
  rw [z] at e
  have := h.1
  rw [← e] at this
  exact absurd this (by decide)
theorem W6_pos {q : Crn} (h : CB q) : (0 : Int64) < W6 q := by
  have h2 : (dn q).natAbs ≤ 4374 := by have := h.1; have := h.2.1; omega
  have e : (W6 q).toInt = dn q := s64 h2 (by decide)
  apply Int64.lt_iff_toInt_lt.mpr
  rw [e]
  exact h.1
theorem cr_lt {a b c : Int32} {q r : Crn} (hf : f9 a ∧ f9 b ∧ f9 c) (hq : CB q) (hr : CB r) : N6 a b c q * W6 r < N6 a b c r * W6 q ↔ ¬ lq a b c r q := by
  rw [Int64.lt_iff_toInt_lt, cross hf hq hr, cross hf hr hq]
  unfold lq
  exact Int.not_le.symm
theorem ord_gt {a b c : Int32} {q r : Crn} (hf : f9 a ∧ f9 b ∧ f9 c) (hq : CB q) (hr : CB r) : (0 < ord (N6 a b c q) (W6 q) (N6 a b c r) (W6 r) ↔ ¬ lq a b c q r) ∧ (ord (N6 a b c q) (W6 q) (N6 a b c r) (W6 r) = 0 ↔ (lq a b c q r ∧ lq a b c r q)) := by
  have e : (ord (N6 a b c q) (W6 q) (N6 a b c r) (W6 r)).toInt = nm a b c q * dn r - nm a b c r * dn q := by
    unfold ord
    rw [if_neg (W6_ne hr)]
    unfold N6 W6
    rw [← Int64.ofInt_mul, ← Int64.ofInt_mul, ← Int64.ofInt_sub]
    have h1 := nm_b hf hq
    have h2 : (dn r).natAbs ≤ 4374 := by have := hr.1; have := hr.2.1; omega
    have h3 := nm_b hf hr
    have h4 : (dn q).natAbs ≤ 4374 := by have := hq.1; have := hq.2.1; omega
    exact s64 (subb (mulb h1 h2) (mulb h3 h4)) (by decide)
  have e0 : (0 : Int64).toInt = 0 := by decide
  unfold lq
  constructor
  · rw [Int64.lt_iff_toInt_lt, e, e0]
    omega
  · rw [← Int64.toInt_inj, e, e0]
    omega
/-- reduced -/
theorem red_eq {x y : Int} {u v : Nat} (hu : u ≠ 0) (hv : v ≠ 0) (h : x * v = y * u) : x / (x.natAbs.gcd u : Int) = y / (y.natAbs.gcd v : Int) ∧ u / x.natAbs.gcd u = v / y.natAbs.gcd v := by
  have := (Rat.normalize_eq_iff hu hv).mpr h
  rw [Rat.normalize_eq, Rat.normalize_eq] at this
  injection this with h1 h2
  exact ⟨h1, h2⟩
