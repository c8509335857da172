/-! ===== the largest value: one on both sides ===== -/
def Cel (A : Nat → Nat → Int32) (dm ncl : Nat) (s p : Nat) : Prop := s < 32 ∧ p < 5 ∧ Wd A dm ncl s ∧ ¬ A 23 (s * 5 + p) = 0
theorem PkI.K {A : Nat → Nat → Int32} {a b c : Int32} {cnt : Nat} {K K2 : Nat → Nat → Prop} {t : Tr} (h : PkI A a b c cnt K t) (e : ∀ s p, K s p ↔ K2 s p) : PkI A a b c cnt K2 t := by
  have : K = K2 := by
    funext s p
    exact propext (e s p)
  rw [← this]
  exact h
theorem CornI.cb {A : Nat → Nat → Int32} {cnt : Nat} (h : CornI A cnt) (hn : ∀ p, p < 14 → Nrm (RC A p)) : ∀ n, n < cnt → CB (cC A n) := by
  intro n hn2
  obtain ⟨p, q, r, g1, g2, g3, g4⟩ := (crn_T3C h (cC A n)).mp ⟨n, hn2, rfl⟩
  exact T3_CB (hn p (by omega)) (hn q (by omega)) (hn r g3) g4
section MOST
variable {A : Nat → Nat → Int32} {dm ncl cnt cnt2 : Nat} {a b c : Int32}
theorem pks_I (hf : f9 a ∧ f9 b ∧ f9 c) (hC : CacheI A cnt) (hB : ∀ n, n < cnt → CB (cC A n)) {K0 : Nat → Nat → Prop} {t : Tr} (h : PkI A a b c cnt K0 t) {s : Nat} (hs : s < 32) : ∀ P, P ≤ 5 → PkI A a b c cnt (fun s2 p2 => K0 s2 p2 ∨ (s2 = s ∧ p2 < P ∧ ¬ A 23 (s * 5 + p2) = 0)) (pks A a b c cnt t s P) := by
  intro P
  induction P with
  | zero => exact fun _ => h.K fun s2 p2 => ⟨Or.inl, fun z => z.elim id fun z2 => absurd z2.2.1 (by omega)⟩
  | succ P ih =>
    intro hP
    have ih := ih (by omega)
    rcases Classical.em (¬ A 23 (s * 5 + P) = 0) with q | q
    · rw [pks_t q, (hC.2.2.2.2 s P hs (by omega)).1, (hC.2.2.2.2 s P hs (by omega)).2.1]
      refine ih.inc hf hB hC.2.2.2.1.sd fun s2 p2 => ?_
      constructor
      · rintro (z | ⟨rfl, z1, z2⟩)
        · exact Or.inl (Or.inl z)
        · by_cases e : p2 = P
          · exact Or.inr ⟨rfl, e⟩
          · exact Or.inl (Or.inr ⟨rfl, by omega, z2⟩)
      · rintro ((z | ⟨rfl, z1, z2⟩) | ⟨rfl, rfl⟩)
        · exact Or.inl z
        · exact Or.inr ⟨rfl, by omega, z2⟩
        · exact Or.inr ⟨rfl, by omega, q⟩
    · rw [pks_f q]
      refine ih.K fun s2 p2 => ?_
      constructor
      · rintro (z | ⟨rfl, z1, z2⟩)
        · exact Or.inl z
        · exact Or.inr ⟨rfl, by omega, z2⟩
      · rintro (z | ⟨rfl, z1, z2⟩)
        · exact Or.inl z
        · by_cases e : p2 = P
          · subst e; exact absurd z2 q
          · exact Or.inr ⟨rfl, by omega, z2⟩
theorem pkw_I (hf : f9 a ∧ f9 b ∧ f9 c) (hC : CacheI A cnt) (hB : ∀ n, n < cnt → CB (cC A n)) : ∀ S, S ≤ 32 → PkI A a b c cnt (fun s p => Cel A dm ncl s p ∧ s < S) (pkw A a b c dm ncl cnt S) := by
  intro S
  induction S with
  | zero => exact fun _ => Or.inl ⟨fun s p h => absurd h.2 (by omega), rfl⟩
  | succ S ih =>
    intro hS
    have ih := ih (by omega)
    rcases Classical.em (Wd A dm ncl S) with q | q
    · rw [pkw_t q]
      refine (pks_I hf hC hB ih (s := S) (by omega) 5 (by omega)).K fun s p => ?_
      constructor
      · rintro (⟨z1, z2⟩ | ⟨rfl, z1, z2⟩)
        · exact ⟨z1, by omega⟩
        · exact ⟨⟨by omega, z1, q, z2⟩, by omega⟩
      · rintro ⟨z1, z2⟩
        by_cases e : s = S
        · subst e; exact Or.inr ⟨rfl, z1.2.1, z1.2.2.2⟩
        · exact Or.inl ⟨z1, by omega⟩
    · rw [pkw_f q]
      refine ih.K fun s p => ?_
      constructor
      · rintro ⟨z1, z2⟩; exact ⟨z1, by omega⟩
      · rintro ⟨z1, z2⟩
        by_cases e : s = S
        · subst e; exact absurd z1.2.2.1 q
        · exact ⟨z1, by omega⟩
theorem pkT (hf : f9 a ∧ f9 b ∧ f9 c) (hC : CacheI A cnt) (hB : ∀ n, n < cnt → CB (cC A n)) : PkI A a b c cnt (Cel A dm ncl) (pkw A a b c dm ncl cnt 32) := (pkw_I hf hC hB 32 (Nat.le_refl _)).K fun _ _ => ⟨fun z => z.1, fun z => ⟨z, z.1⟩⟩
theorem abs64 {X : Int} (h : X.natAbs ≤ 2361960) : (if 0 < Int64.ofInt X then Int64.ofInt X else -Int64.ofInt X) = lN X.natAbs ∧ (if Int64.ofInt X < 0 then -Int64.ofInt X else Int64.ofInt X) = lN X.natAbs := by
  have e1 : (Int64.ofInt X).toInt = X := s64 h (by decide)
  have e2 : -Int64.ofInt X = Int64.ofInt (-X) := (Int64.ofInt_neg X).symm
  have e0 : (0 : Int64).toInt = 0 := by decide
  have hl : lN X.natAbs = Int64.ofInt (X.natAbs : Int) := by
    unfold lN
    rw [Int64.ofInt_eq_ofNat]
  rw [hl, e2]
  constructor
  · by_cases q : 0 < Int64.ofInt X
    · have := Int64.lt_iff_toInt_lt.mp q
      rw [e1, e0] at this
      rw [if_pos q, show (X.natAbs : Int) = X by omega]
    · have : ¬ (0 : Int64).toInt < (Int64.ofInt X).toInt := fun z => q (Int64.lt_iff_toInt_lt.mpr z)
      rw [e1, e0] at this
      rw [if_neg q, show (X.natAbs : Int) = -X by omega]
  · by_cases q : Int64.ofInt X < 0
    · have := Int64.lt_iff_toInt_lt.mp q
      rw [e1, e0] at this
      rw [if_pos q, show (X.natAbs : Int) = -X by omega]
    · have : ¬ (Int64.ofInt X).toInt < (0 : Int64).toInt := fun z => q (Int64.lt_iff_toInt_lt.mpr z)
      rw [e1, e0] at this
      rw [if_neg q, show (X.natAbs : Int) = X by omega]
theorem W6_lN {q : Crn} (h : CB q) : W6 q = lN (dn q).toNat := by
  unfold W6 lN
  have := h.1
  rw [← Int64.ofInt_eq_ofNat, show ((dn q).toNat : Int) = dn q by omega]
theorem numOk (hf : f9 a ∧ f9 b ∧ f9 c) (hC : CacheI A cnt) (hB : ∀ n, n < cnt → CB (cC A n)) : ∃ h0 w0, NumOk (pkw A a b c dm ncl cnt 32) h0 w0 := by
  rcases pkT (dm := dm) (ncl := ncl) hf hC hB with ⟨_, e⟩ | ⟨m, g1, g2, g3, g4, g5, g6, g7⟩
  · rw [e]
    exact ⟨0, 0, by decide, by decide, by decide, by decide, Or.inl rfl⟩
  · have bm := hB m g1
    have hb := nm_b hf bm
    refine ⟨(nm a b c (cC A m)).natAbs, (dn (cC A m)).toNat, ?_, by omega, by have := bm.2.1; omega, by rw [g4, W6_lN bm], g6⟩
    rw [g3]
    exact (abs64 hb).1
/-- the model's climb: the first largest of what it has looked at -/
def MI2 (A : Nat → Nat → Int32) (a b c : Int32) (cnt2 : Nat) (Q : Nat → Prop) (t : Tr) : Prop := ((∀ n, n < cnt2 → ¬ Q n) ∧ t.2.2 = 0) ∨ ∃ m, m < cnt2 ∧ Q m ∧ t = (N6 a b c (cQ A m), W6 (cQ A m), 1) ∧ ∀ n, n < cnt2 → Q n → lq a b c (cQ A n) (cQ A m)
theorem MI2.Q {Q Q2 : Nat → Prop} {t : Tr} (h : MI2 A a b c cnt2 Q t) (e : ∀ n, n < cnt2 → (Q n ↔ Q2 n)) : MI2 A a b c cnt2 Q2 t := by
  rcases h with ⟨h1, h2⟩ | ⟨m, h1, h2, h3, h4⟩
  · exact Or.inl ⟨fun n hn z => h1 n hn ((e n hn).mpr z), h2⟩
  · exact Or.inr ⟨m, h1, (e m h1).mp h2, h3, fun n hn z => h4 n hn ((e n hn).mpr z)⟩
def FtQ (A : Nat → Nat → Int32) (s p n : Nat) : Prop := FitS A s p (vQ A n)
end MOST

/-! ===== what holds of the two between operations ===== -/
def Keep (A B : Nat → Nat → Int32) : Prop := (∀ o, 1 ≤ o → o ≤ 11 → B o = A o) ∧ (∀ p, 5 ≤ p → p < 14 → RC B p = RC A p) ∧ (∀ o, 28 ≤ o → o ≤ 31 → B o = A o) ∧ B 37 = A 37 ∧ B 27 4 = A 27 4 ∧ B 27 5 = A 27 5
theorem Keep.tr {A B C : Nat → Nat → Int32} (h : Keep A B) (h2 : Keep B C) : Keep A C :=
  ⟨fun o q1 q2 => (h2.1 o q1 q2).trans (h.1 o q1 q2), fun p q1 q2 => (h2.2.1 p q1 q2).trans (h.2.1 p q1 q2), fun o q1 q2 => (h2.2.2.1 o q1 q2).trans (h.2.2.1 o q1 q2), h2.2.2.2.1.trans h.2.2.2.1, h2.2.2.2.2.1.trans h.2.2.2.2.1, h2.2.2.2.2.2.trans h.2.2.2.2.2⟩
theorem Keep.rf {A B : Nat → Nat → Int32} (h : RfF A B) : Keep A B := by
  refine ⟨fun o q1 q2 => h.1 o (by omega) (by omega), fun p q1 q2 => ?_, fun o q1 q2 => h.1 o (by omega) (by omega), h.1 37 (by omega) (by omega), by rw [h.1 27 (by omega) (by omega)], by rw [h.1 27 (by omega) (by omega)]⟩
  obtain ⟨a1, a2, a3, a4⟩ := h.2.2.2 p q1
  unfold RC
  rw [a1, a2, a3, a4]
theorem Keep.k26 {A B : Nat → Nat → Int32} (h : ∀ o k, o ≠ 26 → B o k = A o k) : Keep A B := by
  have e : ∀ o, o ≠ 26 → B o = A o := fun o q => funext fun k => h o k q
  refine ⟨fun o q1 q2 => e o (by omega), fun p q1 q2 => ?_, fun o q1 q2 => e o (by omega), e 37 (by omega), by rw [e 27 (by omega)], by rw [e 27 (by omega)]⟩
  unfold RC
  rw [e 13 (by omega), e 14 (by omega), e 15 (by omega), e 16 (by omega)]
theorem CacheI_c {A B : Nat → Nat → Int32} {cnt : Nat} (h1 : ∀ o, 2 ≤ o → o ≤ 8 → B o = A o) (h2 : B 12 9 = A 12 9) (h3 : ∀ o, 13 ≤ o → o ≤ 25 → B o = A o) (h : CacheI A cnt) : CacheI B cnt := by
  have c2 := h1 2 (by omega) (by omega)
  have c3 := h1 3 (by omega) (by omega)
  have c4 := h1 4 (by omega) (by omega)
  have c5 := h1 5 (by omega) (by omega)
  have c6 := h1 6 (by omega) (by omega)
  have c7 := h1 7 (by omega) (by omega)
  have c8 := h1 8 (by omega) (by omega)
  have d := h3
  have g13 := h3 13 (by omega) (by omega)
  have g14 := h3 14 (by omega) (by omega)
  have g15 := h3 15 (by omega) (by omega)
  have g16 := h3 16 (by omega) (by omega)
  have y1 : ∀ p q r, cx B p q r = cx A p q r := fun p q r => by unfold cx D0; rw [g13, g14, g15, g16]
  have y2 : ∀ p q r, cy B p q r = cy A p q r := fun p q r => by unfold cy D0; rw [g13, g14, g15, g16]
  have y3 : ∀ p q r, cz B p q r = cz A p q r := fun p q r => by unfold cz D0; rw [g13, g14, g15, g16]
  have y4 : ∀ p q r, cw B p q r = cw A p q r := fun p q r => by unfold cw D0; rw [g13, g14, g15]
  have y5 : ∀ p q r, InB B p q r ↔ InB A p q r := fun p q r => by unfold InB; rw [y1, y2, y3, y4]; unfold D0; rw [g13, g14, g15]
  have y6 : ∀ n p q r, AtC B B n p q r ↔ AtC A A n p q r := fun n p q r => by
    unfold AtC
    rw [y1, y2, y3, y4, fsd_c g13 g14 g15 g16, h3 17 (by omega) (by omega), h3 18 (by omega) (by omega), h3 19 (by omega) (by omega), h3 20 (by omega) (by omega), h3 21 (by omega) (by omega)]
  obtain ⟨e1, e2, e3, e4, e5⟩ := h
  refine ⟨e1, h2.trans e2, by rw [g13, g14, g15, g16, c3, c4, c5, c6]; exact e3, ⟨fun p q r q1 q2 q3 q4 => ?_, fun n hn => ?_⟩, fun s p hs hp => ?_⟩
  · obtain ⟨n, z1, z2⟩ := e4.1 p q r q1 q2 q3 ((y5 p q r).mp q4)
    exact ⟨n, z1, (y6 n p q r).mpr z2⟩
  · obtain ⟨p, q, r, z1, z2, z3, z4, z5⟩ := e4.2 n hn
    exact ⟨p, q, r, z1, z2, z3, (y5 p q r).mpr z4, (y6 n p q r).mpr z5⟩
  · have n1 : ndc B s p = ndc A s p := by unfold ndc; rw [snd_c c2]
    have n2 : sgc B s p = sgc A s p := by unfold sgc; rw [ssg_c c2]
    have n3 : Opn B s p cnt = Opn A s p cnt := by
      unfold Opn
      rw [n1, n2, HasF_c c2 c7 c8, HavP_c (h3 21 (by omega) (by omega))]
    rw [n1, n2, n3, h3 23 (by omega) (by omega), h3 24 (by omega) (by omega), h3 25 (by omega) (by omega)]
    exact e5 s p hs hp
def GIv (G : Nat → Nat → Int64) : Prop := (G 27 22 = 0 ∧ G 0 6 = 0 ∧ G 0 7 = 0) ∨ ∃ (x : Int) (w : Nat), (0 < w ∧ w ≤ 4374 ∧ x.natAbs ≤ 2361960) ∧ G 27 21 = Int64.ofInt x ∧ G 27 22 = lN w ∧ G 0 6 = Int64.ofInt x / lN (x.natAbs.gcd w) ∧ G 0 7 = lN w / lN (x.natAbs.gcd w)
def Hst (A : Nat → Nat → Int32) : Prop := A 0 5 = 0 → ∃ cnt, CacheI A cnt
theorem Hst.c {A B : Nat → Nat → Int32} (h : Hst A) (h1 : ∀ o, o ≤ 8 → B o = A o) (h2 : B 12 9 = A 12 9) (h3 : ∀ o, 13 ≤ o → o ≤ 25 → B o = A o) : Hst B := by
  intro q
  rw [h1 0 (by omega)] at q
  obtain ⟨cnt, hc⟩ := h q
  exact ⟨cnt, CacheI_c (fun o _ q2 => h1 o q2) h2 h3 hc⟩
/-! ===== a question to both keeps what holds, and is answered alike ===== -/
section ASKS
variable {A A2 A3 : Nat → Nat → Int32} {G : Nat → Nat → Int64} {dm ncl lv cnt cnt2 : Nat}
theorem Wd_r {B : Nat → Nat → Int32} (h23 : B 23 = A 23) (h10 : B 10 = A 10) (s : Nat) : Wd B dm ncl s = Wd A dm ncl s := by
  unfold Wd SatC ClS LitH lit
  rw [h23, h10]
theorem cntw_r {B : Nat → Nat → Int32} (h23 : B 23 = A 23) (h10 : B 10 = A 10) (k : Nat) : cntw B dm ncl k = cntw A dm ncl k := by
  induction k with
  | zero => rfl
  | succ k ih =>
    have e := Wd_r (dm := dm) (ncl := ncl) h23 h10 k
    rcases Classical.em (Wd A dm ncl k) with q | q
    · rw [cntw_t q, cntw_t (by rw [e]; exact q), ih]
    · rw [cntw_f q, cntw_f (by rw [e]; exact q), ih]
theorem hv_r {B : Nat → Nat → Int32} (h23 : B 23 = A 23) (h10 : B 10 = A 10) (m : Nat) : hv B dm ncl m = hv A dm ncl m := by
  have e : Wd B dm ncl = Wd A dm ncl := funext fun s => Wd_r h23 h10 s
  unfold hv SW EW
  rw [e]
theorem pks_r {B : Nat → Nat → Int32} (h : ∀ o, 13 ≤ o → o ≤ 25 → B o = A o) (a b c : Int32) (cnt : Nat) (t : Tr) (s p : Nat) : pks B a b c cnt t s p = pks A a b c cnt t s p := by
  induction p with
  | zero => rfl
  | succ p ih =>
    have e : ∀ nd, ccf B a b c nd cnt = ccf A a b c nd cnt := fun nd => ccf_c (h 17 (by omega) (by omega)) (h 18 (by omega) (by omega)) (h 19 (by omega) (by omega)) (h 20 (by omega) (by omega)) (h 21 (by omega) (by omega)) a b c nd cnt
    rcases Classical.em (¬ A 23 (s * 5 + p) = 0) with q | q
    · rw [pks_t q, pks_t (by rw [h 23 (by omega) (by omega)]; exact q), ih, e, h 24 (by omega) (by omega), h 25 (by omega) (by omega)]
    · rw [pks_f q, pks_f (by rw [h 23 (by omega) (by omega)]; exact q), ih]
theorem pkw_r {B : Nat → Nat → Int32} (h : ∀ o, 13 ≤ o → o ≤ 25 → B o = A o) (h10 : B 10 = A 10) (a b c : Int32) (cnt k : Nat) : pkw B a b c dm ncl cnt k = pkw A a b c dm ncl cnt k := by
  induction k with
  | zero => rfl
  | succ k ih =>
    have e := Wd_r (dm := dm) (ncl := ncl) (h 23 (by omega) (by omega)) h10 k
    rcases Classical.em (Wd A dm ncl k) with q | q
    · rw [pkw_t q, pkw_t (by rw [e]; exact q), ih, pks_r h]
    · rw [pkw_f q, pkw_f (by rw [e]; exact q), ih]
theorem div64 {X k : Int} {g : Nat} (hg : 0 < g) (hX : X = k * g) (hb : X.natAbs ≤ 2361960) (hg2 : g ≤ 4374) : Int64.ofInt X / lN g = Int64.ofInt k := by
  have e1 : (Int64.ofInt X).toInt = X := s64 hb (by decide)
  have e2 : (lN g).toInt = g := by
    unfold lN
    rw [← Int64.ofInt_eq_ofNat]
    exact s64 (m := 4374) (by omega) (by decide)
  apply Int64.toInt_inj.mp
  have e3 : X.tdiv (g : Int) = k := by rw [hX]; exact Int.mul_tdiv_cancel _ (by omega)
  rw [Int64.toInt_div, e1, e2, e3, Int64.toInt_ofInt]
  try rfl
theorem red64 {a b c : Int32} (hf : f9 a ∧ f9 b ∧ f9 c) {q r : Crn} (hq : CB q) (hr : CB r) (h1 : lq a b c q r) (h2 : lq a b c r q) : N6 a b c q / lN ((nm a b c q).natAbs.gcd (dn q).toNat) = N6 a b c r / lN ((nm a b c r).natAbs.gcd (dn r).toNat) ∧ W6 q / lN ((nm a b c q).natAbs.gcd (dn q).toNat) = W6 r / lN ((nm a b c r).natAbs.gcd (dn r).toNat) := by
  have bq := nm_b hf hq
  have br := nm_b hf hr
  have q1 := hq.1
  have q2 := hq.2.1
  have r1 := hr.1
  have r2 := hr.2.1
  have e : nm a b c q * ((dn r).toNat : Int) = nm a b c r * ((dn q).toNat : Int) := by
    rw [show ((dn r).toNat : Int) = dn r by omega, show ((dn q).toNat : Int) = dn q by omega]
    exact Int.le_antisymm h1 h2
  obtain ⟨z1, z2⟩ := red_eq (u := (dn q).toNat) (v := (dn r).toNat) (by omega) (by omega) e
  have gq : 0 < (nm a b c q).natAbs.gcd (dn q).toNat := Nat.gcd_pos_of_pos_right _ (by omega)
  have gr : 0 < (nm a b c r).natAbs.gcd (dn r).toNat := Nat.gcd_pos_of_pos_right _ (by omega)
  have gq2 : (nm a b c q).natAbs.gcd (dn q).toNat ≤ (dn q).toNat := Nat.gcd_le_right _ (by omega)
  have gr2 : (nm a b c r).natAbs.gcd (dn r).toNat ≤ (dn r).toNat := Nat.gcd_le_right _ (by omega)
  have dq : (((nm a b c q).natAbs.gcd (dn q).toNat : Nat) : Int) ∣ nm a b c q := Int.ofNat_dvd_left.mpr (Nat.gcd_dvd_left _ _)
  have dr : (((nm a b c r).natAbs.gcd (dn r).toNat : Nat) : Int) ∣ nm a b c r := Int.ofNat_dvd_left.mpr (Nat.gcd_dvd_left _ _)
  constructor
  · unfold N6
    rw [div64 gq (Int.ediv_mul_cancel dq).symm bq (by omega), div64 gr (Int.ediv_mul_cancel dr).symm br (by omega), z1]
  · rw [W6_lN hq, W6_lN hr, pk_lDiv (by omega) gq (by omega), pk_lDiv (by omega) gr (by omega), z2]
theorem lN_inj {a b : Nat} (ha : a < 2 ^ 63) (hb : b < 2 ^ 63) (h : lN a = lN b) : a = b := (pk_lEQ ha hb).mp h
/-- what the class keeps of the largest value is the reduced fraction -/
theorem rd_of {a b c : Int32} (hf : f9 a ∧ f9 b ∧ f9 c) {q : Crn} (hq : CB q) {t : Tr} {h0 w0 : Nat} (hN : NumOk t h0 w0) (h1 : t.1 = N6 a b c q) (h2 : t.2.1 = W6 q) : rdo t h0 w0 = N6 a b c q / lN ((nm a b c q).natAbs.gcd (dn q).toNat) ∧ rdu t h0 w0 = W6 q / lN ((nm a b c q).natAbs.gcd (dn q).toNat) := by
  have bq := nm_b hf hq
  have q1 := hq.1
  have q2 := hq.2.1
  obtain ⟨n1, n2, n3, n4, n5⟩ := hN
  have e1 : h0 = (nm a b c q).natAbs := by
    rw [h1] at n1
    exact lN_inj (by omega) (by omega) (n1.symm.trans (abs64 bq).1)
  have e2 : w0 = (dn q).toNat := by
    rw [h2, W6_lN hq] at n4
    exact lN_inj (by omega) (by omega) n4.symm
  have gq : 0 < (nm a b c q).natAbs.gcd (dn q).toNat := Nat.gcd_pos_of_pos_right _ (by omega)
  have gq2 : (nm a b c q).natAbs.gcd (dn q).toNat ≤ (dn q).toNat := Nat.gcd_le_right _ (by omega)
  have hp := (lN_pos (w := (nm a b c q).natAbs.gcd (dn q).toNat) (by omega)).mpr gq
  unfold rdo rdu
  rw [e1, e2, if_pos hp, if_pos hp, h1, h2]
  exact ⟨rfl, rfl⟩
theorem rd_0 {h0 w0 : Nat} (hN : NumOk (0, 0, 0) h0 w0) : rdo (0, 0, 0) h0 w0 = 0 ∧ rdu (0, 0, 0) h0 w0 = 0 := by
  obtain ⟨n1, n2, n3, n4, n5⟩ := hN
  have e1 : h0 = 0 := lN_inj (by omega) (by decide) (n1.symm.trans (by decide))
  have e2 : w0 = 0 := lN_inj (by omega) (by decide) (n4.symm.trans (by decide))
  subst e1 e2
  decide
end ASKS

