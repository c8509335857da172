def upf (f : Nat → Rw) (n : Nat) (r : Rw) : Nat → Rw := fun i => if i = n then r else f i
def fx9 : Nat → Rw := upf (upf (upf (upf (upf (upf (upf (upf (upf (fun _ => (0, 0, 0, 0)) 0 (1, 0, 0, 20)) 1 (1, 0, 0, -20)) 2 (0, 1, 0, 20)) 3 (0, 1, 0, -20)) 4 (0, 0, 1, 20)) 5 (0, 0, 1, -20)) 6 (1, -1, 0, 0)) 7 (1, 0, -1, 0)) 8 (0, 1, -1, 0)
/-! ===== corners: one set on both sides ===== -/
def dt3 (f g h : Rw → Int32) (P Q R : Rw) : Int32 := f P * (g Q * h R - g R * h Q) - g P * (f Q * h R - f R * h Q) + h P * (f Q * g R - f R * g Q)
def ra (P : Rw) : Int32 := P.1
def rb (P : Rw) : Int32 := P.2.1
def rc (P : Rw) : Int32 := P.2.2.1
def rd (P : Rw) : Int32 := P.2.2.2
theorem dt3_12 (f g h : Rw → Int32) (P Q R : Rw) : dt3 f g h Q P R = - dt3 f g h P Q R := by
  unfold dt3
  generalize f P = a1; generalize f Q = a2; generalize f R = a3; generalize g P = b1; generalize g Q = b2; generalize g R = b3; generalize h P = c1; generalize h Q = c2; generalize h R = c3
  grind
theorem dt3_23 (f g h : Rw → Int32) (P Q R : Rw) : dt3 f g h P R Q = - dt3 f g h P Q R := by
  unfold dt3
  generalize f P = a1; generalize f Q = a2; generalize f R = a3; generalize g P = b1; generalize g Q = b2; generalize g R = b3; generalize h P = c1; generalize h Q = c2; generalize h R = c3
  grind
def Nrm (P : Rw) : Prop := f9 (ra P) ∧ f9 (rb P) ∧ f9 (rc P)
theorem mulb {x y : Int} {m n : Nat} (hx : x.natAbs ≤ m) (hy : y.natAbs ≤ n) : (x * y).natAbs ≤ m * n := by
  rw [Int.natAbs_mul]
  exact Nat.mul_le_mul hx hy
theorem subb {x y : Int} {m n : Nat} (hx : x.natAbs ≤ m) (hy : y.natAbs ≤ n) : (x - y).natAbs ≤ m + n := by omega
theorem addb {x y : Int} {m n : Nat} (hx : x.natAbs ≤ m) (hy : y.natAbs ≤ n) : (x + y).natAbs ≤ m + n := by omega
theorem f9_int {x : Int32} (h : f9 x) : x.toInt.natAbs ≤ 9 := by
  have h1 := Int32.le_iff_toInt_le.mp h.1
  have h2 := Int32.le_iff_toInt_le.mp h.2
  have e1 : ((-9 : Int32)).toInt = -9 := by decide
  have e2 : ((9 : Int32)).toInt = 9 := by decide
  rw [e1] at h1
  rw [e2] at h2
  omega
theorem ofI (x : Int32) : x = Int32.ofInt x.toInt := (Int32.ofInt_toInt x).symm
theorem small_toInt {X : Int} {m : Nat} (h : X.natAbs ≤ m) (hm : m < 2 ^ 31) : (Int32.ofInt X).toInt = X := by
  apply Int32.toInt_ofInt_of_le
  · omega
  · omega
theorem dt3_small {P Q R : Rw} (hP : Nrm P) (hQ : Nrm Q) (hR : Nrm R) : (dt3 ra rb rc P Q R).toInt.natAbs ≤ 4374 := by
  have b := fun {x : Int32} (h : f9 x) => f9_int h
  unfold dt3
  obtain ⟨p1, p2, p3⟩ := hP
  obtain ⟨q1, q2, q3⟩ := hQ
  obtain ⟨r1, r2, r3⟩ := hR
  replace p1 := f9_int p1
  replace p2 := f9_int p2
  replace p3 := f9_int p3
  replace q1 := f9_int q1
  replace q2 := f9_int q2
  replace q3 := f9_int q3
  replace r1 := f9_int r1
  replace r2 := f9_int r2
  replace r3 := f9_int r3
  rw [ofI (ra P), ofI (rb P), ofI (rc P), ofI (ra Q), ofI (rb Q), ofI (rc Q), ofI (ra R), ofI (rb R), ofI (rc R)]
  simp only [← Int32.ofInt_mul, ← Int32.ofInt_sub, ← Int32.ofInt_add]
  have hb := addb (subb (mulb p1 (subb (mulb q2 r3) (mulb r2 q3))) (mulb p2 (subb (mulb q1 r3) (mulb r1 q3)))) (mulb p3 (subb (mulb q1 r2) (mulb r1 q2)))
  rw [small_toInt hb (by decide)]
  exact hb
theorem sgn_neg {D : Int32} (h0 : ¬ D = 0) (hs : D.toInt.natAbs ≤ 4374) : sgn (-D) = - sgn D := by
  have e : (-D).toInt = -D.toInt := by
    rw [ofI D, ← Int32.ofInt_neg, small_toInt (m := 4374) (by omega) (by decide), ← ofI D]
  have h1 : ¬ D.toInt = 0 := fun z => h0 (Int32.toInt_inj.mp (by rw [z]; rfl))
  unfold sgn
  have e0 : ((0 : Int32)).toInt = 0 := by decide
  by_cases c : D < 0
  · have c1 := Int32.lt_iff_toInt_lt.mp c
    rw [if_pos c, if_neg (fun z => by have := Int32.lt_iff_toInt_lt.mp z; rw [e, e0] at this; rw [e0] at c1; omega)]
    rfl
  · have c1 : ¬ D.toInt < (0 : Int32).toInt := fun z => c (Int32.lt_iff_toInt_lt.mpr z)
    rw [if_neg c, if_pos (Int32.lt_iff_toInt_lt.mpr (by rw [e, e0]; rw [e0] at c1; omega))]
abbrev Crn := Int32 × Int32 × Int32 × Int32
def cor (P Q R : Rw) : Crn := (sgn (dt3 ra rb rc P Q R) * dt3 rd rb rc P Q R, sgn (dt3 ra rb rc P Q R) * dt3 ra rd rc P Q R, sgn (dt3 ra rb rc P Q R) * dt3 ra rb rd P Q R, sgn (dt3 ra rb rc P Q R) * dt3 ra rb rc P Q R)
def wthC (c : Crn) : Prop := wth c.1 (20 * c.2.2.2) ∧ wth c.2.1 (20 * c.2.2.2) ∧ wth c.2.2.1 (20 * c.2.2.2)
def T3 (R : Nat → Rw) (c : Crn) (i j k : Nat) : Prop := ¬ dt3 ra rb rc (R i) (R j) (R k) = 0 ∧ cor (R i) (R j) (R k) = c ∧ wthC c
theorem neg_mul2 (a b : Int32) : -a * -b = a * b := by grind
theorem neg_z {a : Int32} : -a = 0 ↔ a = 0 := by
  constructor
  · intro h
    have : a = -(-a) := by grind
    rw [this, h]
    rfl
  · rintro rfl; rfl
theorem T3_12 {R : Nat → Rw} {c : Crn} {i j k : Nat} (hi : Nrm (R i)) (hj : Nrm (R j)) (hk : Nrm (R k)) (h : T3 R c i j k) : T3 R c j i k := by
  obtain ⟨h1, h2, h3⟩ := h
  have hs := dt3_small hi hj hk
  refine ⟨by rw [dt3_12, neg_z]; exact h1, ?_, h3⟩
  rw [← h2]
  unfold cor
  rw [dt3_12 ra rb rc, dt3_12 rd rb rc, dt3_12 ra rd rc, dt3_12 ra rb rd, sgn_neg h1 hs, neg_mul2, neg_mul2, neg_mul2, neg_mul2]
theorem T3_23 {R : Nat → Rw} {c : Crn} {i j k : Nat} (hi : Nrm (R i)) (hj : Nrm (R j)) (hk : Nrm (R k)) (h : T3 R c i j k) : T3 R c i k j := by
  obtain ⟨h1, h2, h3⟩ := h
  have hs := dt3_small hi hj hk
  refine ⟨by rw [dt3_23, neg_z]; exact h1, ?_, h3⟩
  rw [← h2]
  unfold cor
  rw [dt3_23 ra rb rc, dt3_23 rd rb rc, dt3_23 ra rd rc, dt3_23 ra rb rd, sgn_neg h1 hs, neg_mul2, neg_mul2, neg_mul2, neg_mul2]
/-- three planes in whatever order: they stand in the order up, and in the order down -/
theorem T3_up {R : Nat → Rw} {c : Crn} {N : Nat} (hR : ∀ i, i < N → Nrm (R i)) {i j k : Nat} (hi : i < N) (hj : j < N) (hk : k < N) (d1 : i ≠ j) (d2 : i ≠ k) (d3 : j ≠ k) (h : T3 R c i j k) : ∃ p q r, p < q ∧ q < r ∧ r < N ∧ T3 R c p q r := by
  have ni := hR i hi
  have nj := hR j hj
  have nk := hR k hk
  rcases (show (i < j ∧ j < k) ∨ (i < k ∧ k < j) ∨ (j < i ∧ i < k) ∨ (j < k ∧ k < i) ∨ (k < i ∧ i < j) ∨ (k < j ∧ j < i) by omega) with q | q | q | q | q | q
  · exact ⟨i, j, k, q.1, q.2, hk, h⟩
  · exact ⟨i, k, j, q.1, q.2, hj, T3_23 ni nj nk h⟩
  · exact ⟨j, i, k, q.1, q.2, hk, T3_12 ni nj nk h⟩
  · exact ⟨j, k, i, q.1, q.2, hi, T3_23 nj ni nk (T3_12 ni nj nk h)⟩
  · exact ⟨k, i, j, q.1, q.2, hj, T3_12 ni nk nj (T3_23 ni nj nk h)⟩
  · exact ⟨k, j, i, q.1, q.2, hi, T3_12 nj nk ni (T3_23 nj ni nk (T3_12 ni nj nk h))⟩
theorem T3_dn {R : Nat → Rw} {c : Crn} {N : Nat} (hR : ∀ i, i < N → Nrm (R i)) {i j k : Nat} (hi : i < N) (hj : j < N) (hk : k < N) (d1 : i ≠ j) (d2 : i ≠ k) (d3 : j ≠ k) (h : T3 R c i j k) : ∃ p q r, r < q ∧ q < p ∧ p < N ∧ T3 R c p q r := by
  obtain ⟨p, q, r, h1, h2, h3, h4⟩ := T3_up hR hi hj hk d1 d2 d3 h
  have np := hR p (by omega)
  have nq := hR q (by omega)
  have nr := hR r h3
  exact ⟨r, q, p, h1, h2, h3, T3_12 nq nr np (T3_23 nq np nr (T3_12 np nq nr h4))⟩
def RC (A : Nat → Nat → Int32) (p : Nat) : Rw := (A 13 p, A 14 p, A 15 p, A 16 p)
def RQ (A : Nat → Nat → Int32) (i : Nat) : Rw := (A 32 (4 * i), A 32 (4 * i + 1), A 32 (4 * i + 2), A 32 (4 * i + 3))
theorem D0_dt (A : Nat → Nat → Int32) (p q r : Nat) : D0 A p q r = dt3 ra rb rc (RC A p) (RC A q) (RC A r) := rfl
theorem InB_T3 (A : Nat → Nat → Int32) (p q r : Nat) (c : Crn) : T3 (RC A) c p q r ↔ (InB A p q r ∧ (cx A p q r, cy A p q r, cz A p q r, cw A p q r) = c) := by
  constructor
  · rintro ⟨h1, h2, h3⟩
    subst h2
    exact ⟨⟨h1, h3.1, h3.2.1, h3.2.2⟩, rfl⟩
  · rintro ⟨⟨h1, h2, h3, h4⟩, rfl⟩
    exact ⟨h1, rfl, h2, h3, h4⟩
/-! ===== the corners of the class are those of the model ===== -/
def fxi (p : Nat) : Nat := if p < 8 then p + 1 else p - 8
def Fixp (A : Nat → Nat → Int32) : Prop := ∀ p, 5 ≤ p → p < 14 → RC A p = fx9 (fxi p)
def row29 (A : Nat → Nat → Int32) (k : Nat) : Rw := (A 29 (4 * k), A 29 (4 * k + 1), A 29 (4 * k + 2), A 29 (4 * k + 3))
def row3 (A : Nat → Nat → Int32) (k : Nat) : Rw := (A 3 k, A 4 k, A 5 k, A 6 k)
theorem fxi_lt {p : Nat} (h : 5 ≤ p) (h2 : p < 14) : fxi p < 9 := by unfold fxi; split <;> omega
def PlC (A : Nat → Nat → Int32) : Prop := ∀ k, k < 5 → A 13 k = A 3 k ∧ A 14 k = A 4 k ∧ A 15 k = A 5 k ∧ A 16 k = A 6 k
theorem RC_row3 {A : Nat → Nat → Int32} (h : PlC A) {k : Nat} (hk : k < 5) : RC A k = row3 A k := by
  obtain ⟨h1, h2, h3, h4⟩ := h k hk
  unfold RC row3
  rw [h1, h2, h3, h4]
theorem fx9_nrm : ∀ i, i < 9 → Nrm (fx9 i) := by
  intro i hi
  have h : ∀ i, i < 9 → (decide (-9 ≤ (fx9 i).1 ∧ (fx9 i).1 ≤ 9) && decide (-9 ≤ (fx9 i).2.1 ∧ (fx9 i).2.1 ≤ 9) && decide (-9 ≤ (fx9 i).2.2.1 ∧ (fx9 i).2.2.1 ≤ 9)) = true := by decide +kernel
  have := h i hi
  simp only [Bool.and_eq_true, decide_eq_true_eq] at this
  exact ⟨this.1.1, this.1.2, this.2⟩
theorem T3_eq {R R2 : Nat → Rw} {c : Crn} {i j k i2 j2 k2 : Nat} (h1 : R2 i2 = R i) (h2 : R2 j2 = R j) (h3 : R2 k2 = R k) (h : T3 R c i j k) : T3 R2 c i2 j2 k2 := by
  unfold T3 at h ⊢
  rw [h1, h2, h3]
  exact h
def cC (A : Nat → Nat → Int32) (n : Nat) : Crn := (A 17 n, A 18 n, A 19 n, A 20 n)
def cQ (A : Nat → Nat → Int32) (n : Nat) : Crn := (A 33 (4 * n), A 33 (4 * n + 1), A 33 (4 * n + 2), A 33 (4 * n + 3))
theorem crn_T3C {A : Nat → Nat → Int32} {cnt : Nat} (h : CornI A cnt) (c : Crn) : (∃ n, n < cnt ∧ cC A n = c) ↔ ∃ p q r, p < q ∧ q < r ∧ r < 14 ∧ T3 (RC A) c p q r := by
  constructor
  · rintro ⟨n, hn, rfl⟩
    obtain ⟨p, q, r, g1, g2, g3, g4, g5⟩ := h.2 n hn
    refine ⟨p, q, r, g1, g2, g3, (InB_T3 A p q r _).mpr ⟨g4, ?_⟩⟩
    unfold cC
    rw [g5.1, g5.2.1, g5.2.2.1, g5.2.2.2.1]
  · rintro ⟨p, q, r, g1, g2, g3, g4⟩
    obtain ⟨g5, rfl⟩ := (InB_T3 A p q r c).mp g4
    obtain ⟨n, hn, g6⟩ := h.1 p q r g1 g2 g3 g5
    refine ⟨n, hn, ?_⟩
    unfold cC
    rw [g6.1, g6.2.1, g6.2.2.1, g6.2.2.2.1]
