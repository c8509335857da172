theorem sub_z (x y : Int32) : (1 * x + (-1) * y + 0) = 0 ↔ x = y := by
  constructor
  · intro h
    have : x = (1 * x + (-1) * y + 0) + y := by grind
    rw [this, h]
    grind
  · rintro rfl
    grind
theorem CornI.sd {A : Nat → Nat → Int32} {cnt : Nat} (h : CornI A cnt) : ∀ n, n < cnt → Sd A n := by
  intro n hn
  obtain ⟨p, q, r, -, -, -, -, g1, g2, g3, g4, g5⟩ := h.2 n hn
  unfold Sd
  rw [g1, g2, g3, g4]
  exact g5
def fo4 (A : Nat → Nat → Int32) (c : Crn) : Nat → Int32 := fov A c.1 c.2.1 c.2.2.1 c.2.2.2
theorem exc {A : Nat → Nat → Int32} {cnt cnt2 : Nat} (h : ∀ c, (∃ n, n < cnt ∧ cC A n = c) ↔ ∃ n, n < cnt2 ∧ cQ A n = c) (F : Crn → Prop) : (∃ n, n < cnt ∧ F (cC A n)) ↔ ∃ n, n < cnt2 ∧ F (cQ A n) := by
  constructor
  · rintro ⟨n, h1, h2⟩
    obtain ⟨m, h3, h4⟩ := (h _).mp ⟨n, h1, rfl⟩
    exact ⟨m, h3, by rw [h4]; exact h2⟩
  · rintro ⟨n, h1, h2⟩
    obtain ⟨m, h3, h4⟩ := (h _).mpr ⟨n, h1, rfl⟩
    exact ⟨m, h3, by rw [h4]; exact h2⟩
theorem SidS_x {A : Nat → Nat → Int32} {cnt cnt2 : Nat} (h : ∀ c, (∃ n, n < cnt ∧ cC A n = c) ↔ ∃ n, n < cnt2 ∧ cQ A n = c) (s p : Nat) (P : Crn → Prop) : SidS A s p (vC A) (fun n => P (cC A n)) cnt ↔ SidS A s p (vQ A) (fun n => P (cQ A n)) cnt2 := by
  have e1 := fun k => exc h (fun c => P c ∧ 0 < fo4 A c k)
  have e2 := fun k => exc h (fun c => P c ∧ ¬ fo4 A c k = 0)
  unfold SidS
  exact and_congr ⟨fun hh k q1 q2 q3 => (e1 k).mp (hh k q1 q2 q3), fun hh k q1 q2 q3 => (e1 k).mpr (hh k q1 q2 q3)⟩ (and_congr ⟨fun hh k q1 q2 q3 => (e2 k).mp (hh k q1 q2 q3), fun hh k q1 q2 q3 => (e2 k).mpr (hh k q1 q2 q3)⟩ ⟨fun hh t q1 q2 => (e2 (5 + t)).mp (hh t q1 q2), fun hh t q1 q2 => (e2 (5 + t)).mpr (hh t q1 q2)⟩)
section BTH
variable {A : Nat → Nat → Int32} {dm ncl cnt cnt2 : Nat}
end BTH

/-! ===== fractions of corners ===== -/
def nm (a b c : Int32) (q : Crn) : Int := a.toInt * q.1.toInt + b.toInt * q.2.1.toInt + c.toInt * q.2.2.1.toInt
def dn (q : Crn) : Int := q.2.2.2.toInt
def CB (q : Crn) : Prop := 0 < dn q ∧ dn q ≤ 4374 ∧ q.1.toInt.natAbs ≤ 87480 ∧ q.2.1.toInt.natAbs ≤ 87480 ∧ q.2.2.1.toInt.natAbs ≤ 87480
def lq (a b c : Int32) (q r : Crn) : Prop := nm a b c q * dn r ≤ nm a b c r * dn q
theorem lq_tr {a b c : Int32} {p q r : Crn} (hq : 0 < dn q) (hp : 0 < dn p) (hr : 0 < dn r) (h1 : lq a b c p q) (h2 : lq a b c q r) : lq a b c p r := by
  unfold lq at h1 h2 ⊢
  generalize nm a b c p = x at *
  generalize nm a b c q = y at *
  generalize nm a b c r = z at *
  have e1 := Int.mul_le_mul_of_nonneg_right h1 (Int.le_of_lt hr)
  have e2 := Int.mul_le_mul_of_nonneg_right h2 (Int.le_of_lt hp)
  have e3 : (x * dn r) * dn q ≤ (z * dn p) * dn q := by
    have f1 : x * dn r * dn q = x * dn q * dn r := by grind
    have f2 : z * dn p * dn q = z * dn q * dn p := by grind
    have f3 : y * dn p * dn r = y * dn r * dn p := by grind
    omega
  exact Int.le_of_mul_le_mul_right e3 hq
theorem lq_tot (a b c : Int32) (q r : Crn) : lq a b c q r ∨ lq a b c r q := Int.le_total _ _
theorem lq_rf (a b c : Int32) (q : Crn) : lq a b c q q := Int.le_refl _
def N6 (a b c : Int32) (q : Crn) : Int64 := Int64.ofInt (nm a b c q)
def W6 (q : Crn) : Int64 := Int64.ofInt (dn q)
theorem nm_b {a b c : Int32} {q : Crn} (hf : f9 a ∧ f9 b ∧ f9 c) (h : CB q) : (nm a b c q).natAbs ≤ 2361960 := by
  have h1 := mulb (f9_int hf.1) h.2.2.1
  have h2 := mulb (f9_int hf.2.1) h.2.2.2.1
  have h3 := mulb (f9_int hf.2.2) h.2.2.2.2
  exact addb (addb h1 h2) h3
theorem s64 {X : Int} {m : Nat} (h : X.natAbs ≤ m) (hm : m < 2 ^ 62) : (Int64.ofInt X).toInt = X := by
  apply Int64.toInt_ofInt_of_le
  · omega
  · omega
theorem to64 (x : Int32) : x.toInt64 = Int64.ofInt x.toInt := by
  apply Int64.toInt_inj.mp
  rw [Int32.toInt_toInt64, s64 (m := 2 ^ 31) _ (by decide)]
  have h1 := Int32.toInt_lt x
  have h2 := Int32.le_toInt x
  omega
theorem vS_N {A : Nat → Nat → Int32} (a b c : Int32) (n : Nat) : vS A a b c n = N6 a b c (cC A n) ∧ dS A n = W6 (cC A n) := by
  unfold vS dS N6 W6 nm dn cC
  simp only [to64, ← Int64.ofInt_mul, ← Int64.ofInt_add]
  exact ⟨trivial, trivial⟩
theorem cross {a b c : Int32} {q r : Crn} (hf : f9 a ∧ f9 b ∧ f9 c) (hq : CB q) (hr : CB r) : (N6 a b c q * W6 r).toInt = nm a b c q * dn r := by
  unfold N6 W6
  rw [← Int64.ofInt_mul]
  have h1 := nm_b hf hq
  have h2 : (dn r).natAbs ≤ 4374 := by have := hr.1; have := hr.2.1; omega
  exact s64 (mulb h1 h2) (by decide)
theorem W6_ne {q : Crn} (h : CB q) : ¬ W6 q = 0 := by
  intro z
  have h2 : (dn q).natAbs ≤ 4374 := by have := h.1; have := h.2.1; omega
  have e : (W6 q).toInt = dn q := s64 h2 (by decide)
  rw [z] at e
  have := h.1
  rw [← e] at this
  exact absurd this (by decide)
theorem W6_pos {q : Crn} (h : CB q) : (0 : Int64) < W6 q := by
  have h2 : (dn q).natAbs ≤ 4374 := by have := h.1; have := h.2.1; omega
  have e : (W6 q).toInt = dn q := s64 h2 (by decide)
  apply Int64.lt_iff_toInt_lt.mpr
  rw [e]
  exact h.1
theorem cr_lt {a b c : Int32} {q r : Crn} (hf : f9 a ∧ f9 b ∧ f9 c) (hq : CB q) (hr : CB r) : N6 a b c q * W6 r < N6 a b c r * W6 q ↔ ¬ lq a b c r q := by
  rw [Int64.lt_iff_toInt_lt, cross hf hq hr, cross hf hr hq]
  unfold lq
  exact Int.not_le.symm
theorem ord_gt {a b c : Int32} {q r : Crn} (hf : f9 a ∧ f9 b ∧ f9 c) (hq : CB q) (hr : CB r) : (0 < ord (N6 a b c q) (W6 q) (N6 a b c r) (W6 r) ↔ ¬ lq a b c q r) ∧ (ord (N6 a b c q) (W6 q) (N6 a b c r) (W6 r) = 0 ↔ (lq a b c q r ∧ lq a b c r q)) := by
  have e : (ord (N6 a b c q) (W6 q) (N6 a b c r) (W6 r)).toInt = nm a b c q * dn r - nm a b c r * dn q := by
    unfold ord
    rw [if_neg (W6_ne hr)]
    unfold N6 W6
    rw [← Int64.ofInt_mul, ← Int64.ofInt_mul, ← Int64.ofInt_sub]
    have h1 := nm_b hf hq
    have h2 : (dn r).natAbs ≤ 4374 := by have := hr.1; have := hr.2.1; omega
    have h3 := nm_b hf hr
    have h4 : (dn q).natAbs ≤ 4374 := by have := hq.1; have := hq.2.1; omega
    exact s64 (subb (mulb h1 h2) (mulb h3 h4)) (by decide)
  have e0 : (0 : Int64).toInt = 0 := by decide
  unfold lq
  constructor
  · rw [Int64.lt_iff_toInt_lt, e, e0]
    omega
  · rw [← Int64.toInt_inj, e, e0]
    omega
/-- reduced -/
theorem red_eq {x y : Int} {u v : Nat} (hu : u ≠ 0) (hv : v ≠ 0) (h : x * v = y * u) : x / (x.natAbs.gcd u : Int) = y / (y.natAbs.gcd v : Int) ∧ u / x.natAbs.gcd u = v / y.natAbs.gcd v := by
  have := (Rat.normalize_eq_iff hu hv).mpr h
  rw [Rat.normalize_eq, Rat.normalize_eq] at this
  injection this with h1 h2
  exact ⟨h1, h2⟩

theorem T3_CB {R : Nat → Rw} {c : Crn} {i j k : Nat} (hi : Nrm (R i)) (hj : Nrm (R j)) (hk : Nrm (R k)) (h : T3 R c i j k) : CB c := by
  obtain ⟨h1, h2, h3⟩ := h
  have hs := dt3_small hi hj hk
  have hw : c.2.2.2 = sgn (dt3 ra rb rc (R i) (R j) (R k)) * dt3 ra rb rc (R i) (R j) (R k) := by rw [← h2]; rfl
  generalize dt3 ra rb rc (R i) (R j) (R k) = D at h1 hs hw
  have h0 : ¬ D.toInt = 0 := fun z => h1 (Int32.toInt_inj.mp (by rw [z]; rfl))
  have e0 : ((0 : Int32)).toInt = 0 := by decide
  have en : (-D).toInt = -D.toInt := by
    rw [ofI D, ← Int32.ofInt_neg, small_toInt (m := 4374) (by omega) (by decide), ← ofI D]
  have hd : dn c = D.toInt.natAbs := by
    unfold dn
    rw [hw]
    unfold sgn
    by_cases q : D < 0
    · have q1 := Int32.lt_iff_toInt_lt.mp q
      rw [if_pos q, show (-1 : Int32) * D = -D by grind, en]
      omega
    · have q1 : ¬ D.toInt < (0 : Int32).toInt := fun z => q (Int32.lt_iff_toInt_lt.mpr z)
      rw [if_neg q, show (1 : Int32) * D = D by grind]
      omega
  have e20 : (20 * c.2.2.2).toInt = 20 * dn c := by
    have hw4 : (dn c).natAbs ≤ 4374 := by omega
    have : (20 * c.2.2.2 : Int32) = Int32.ofInt (20 * dn c) := by
      unfold dn
      rw [Int32.ofInt_mul, Int32.ofInt_toInt]
      rfl
    rw [this, small_toInt (m := 20 * 4374) (by omega) (by decide)]
  have en20 : (-(20 * c.2.2.2)).toInt = -(20 * dn c) := by
    rw [ofI (20 * c.2.2.2), ← Int32.ofInt_neg, small_toInt (m := 20 * 4374) (by rw [e20]; omega) (by decide), e20]
  have wb : ∀ v, wth v (20 * c.2.2.2) → v.toInt.natAbs ≤ 87480 := fun v hv => by
    have g1 := Int32.le_iff_toInt_le.mp hv.1
    have g2 := Int32.le_iff_toInt_le.mp hv.2
    rw [en20] at g1
    rw [e20] at g2
    omega
  exact ⟨by omega, by omega, wb _ h3.1, wb _ h3.2.1, wb _ h3.2.2⟩
/-- the largest fraction among the corners that fit, and their sides there -/
def CcI (A : Nat → Nat → Int32) (a b c : Int32) (P : Nat → Prop) (k : Nat) (t : Tr) : Prop := ((∀ n, n < k → ¬ P n) ∧ t = (0, 0, 0)) ∨ ∃ m, m < k ∧ P m ∧ t.1 = N6 a b c (cC A m) ∧ t.2.1 = W6 (cC A m) ∧ (∀ n, n < k → P n → lq a b c (cC A n) (cC A m)) ∧ ∀ i, i < 32 → (tb t.2.2 i = true ↔ ∃ n, n < k ∧ P n ∧ lq a b c (cC A m) (cC A n) ∧ tb (A 21 n) i = true)
theorem CcI.cc {A : Nat → Nat → Int32} {a b c : Int32} (hf : f9 a ∧ f9 b ∧ f9 c) {cnt : Nat} (hB : ∀ n, n < cnt → CB (cC A n)) (nd : Int32) : ∀ k, k ≤ cnt → CcI A a b c (fit A nd) k (ccf A a b c nd k) := by
  intro k
  induction k with
  | zero => intro _; exact Or.inl ⟨fun n hn => by omega, rfl⟩
  | succ k ih =>
    intro hk
    have ih := ih (by omega)
    have bk := hB k (by omega)
    rcases Classical.em (fit A nd k) with q | q
    · rw [ccf_t q, (vS_N a b c k).1, (vS_N a b c k).2]
      rcases ih with ⟨h1, h2⟩ | ⟨m, g1, g2, g3, g4, g5, g6⟩
      · rw [h2]
        refine Or.inr ⟨k, by omega, q, ?_⟩
        have e : ccn (0, 0, 0) (N6 a b c (cC A k)) (W6 (cC A k)) (A 21 k) = (N6 a b c (cC A k), W6 (cC A k), A 21 k) := by
          unfold ccn ord
          rw [if_pos rfl, if_pos (by decide)]
        rw [e]
        refine ⟨rfl, rfl, fun n hn hp => ?_, fun i hi => ?_⟩
        · by_cases e : n = k
          · subst e; exact lq_rf _ _ _ _
          · exact absurd hp (h1 n (by omega))
        · constructor
          · exact fun z => ⟨k, by omega, q, lq_rf _ _ _ _, z⟩
          · rintro ⟨n, z1, z2, z3, z4⟩
            by_cases e : n = k
            · subst e; exact z4
            · exact absurd z2 (h1 n (by omega))
      · have bm := hB m (by omega)
        have o := ord_gt (a := a) (b := b) (c := c) hf bk bm
        unfold ccn
        rw [g3, g4]
        by_cases c1 : 0 < ord (N6 a b c (cC A k)) (W6 (cC A k)) (N6 a b c (cC A m)) (W6 (cC A m))
        · rw [if_pos c1]
          have n1 := o.1.mp c1
          have n2 : lq a b c (cC A m) (cC A k) := (lq_tot a b c _ _).resolve_left n1
          refine Or.inr ⟨k, by omega, q, rfl, rfl, fun n hn hp => ?_, fun i hi => ?_⟩
          · by_cases e : n = k
            · subst e; exact lq_rf _ _ _ _
            · exact lq_tr bm.1 (hB n (by omega)).1 bk.1 (g5 n (by omega) hp) n2
          · constructor
            · exact fun z => ⟨k, by omega, q, lq_rf _ _ _ _, z⟩
            · rintro ⟨n, z1, z2, z3, z4⟩
              by_cases e : n = k
              · subst e; exact z4
              · exact absurd (lq_tr (hB n (by omega)).1 bk.1 bm.1 z3 (g5 n (by omega) z2)) n1
        · rw [if_neg c1]
          have n1 : lq a b c (cC A k) (cC A m) := Classical.byContradiction fun z => c1 (o.1.mpr z)
          by_cases c2 : ord (N6 a b c (cC A k)) (W6 (cC A k)) (N6 a b c (cC A m)) (W6 (cC A m)) = 0
          · rw [if_pos c2]
            have n2 := (o.2.mp c2).2
            refine Or.inr ⟨m, by omega, g2, rfl, rfl, fun n hn hp => ?_, fun i hi => ?_⟩
            · by_cases e : n = k
              · subst e; exact n1
              · exact g5 n (by omega) hp
            · show tb (_ ||| A 21 k) i = true ↔ _
              rw [tb_or, Bool.or_eq_true, g6 i hi]
              constructor
              · rintro (⟨n, z1, z2⟩ | z)
                · exact ⟨n, by omega, z2⟩
                · exact ⟨k, by omega, q, n2, z⟩
              · rintro ⟨n, z1, z2, z3, z4⟩
                by_cases e : n = k
                · subst e; exact Or.inr z4
                · exact Or.inl ⟨n, by omega, z2, z3, z4⟩
          · rw [if_neg c2]
            have n2 : ¬ lq a b c (cC A m) (cC A k) := fun z => c2 (o.2.mpr ⟨n1, z⟩)
            refine Or.inr ⟨m, by omega, g2, g3, g4, fun n hn hp => ?_, fun i hi => ?_⟩
            · by_cases e : n = k
              · subst e; exact n1
              · exact g5 n (by omega) hp
            · rw [g6 i hi]
              constructor
              · rintro ⟨n, z1, z2⟩; exact ⟨n, by omega, z2⟩
              · rintro ⟨n, z1, z2, z3, z4⟩
                by_cases e : n = k
                · subst e; exact absurd z3 n2
                · exact ⟨n, by omega, z2, z3, z4⟩
    · rw [ccf_f q]
      rcases ih with ⟨h1, h2⟩ | ⟨m, g1, g2, g3, g4, g5, g6⟩
      · refine Or.inl ⟨fun n hn => ?_, h2⟩
        by_cases e : n = k
        · subst e; exact q
        · exact h1 n (by omega)
      · refine Or.inr ⟨m, by omega, g2, g3, g4, fun n hn hp => ?_, fun i hi => ?_⟩
        · by_cases e : n = k
          · subst e; exact absurd hp q
          · exact g5 n (by omega) hp
        · rw [g6 i hi]
          constructor
          · rintro ⟨n, z1, z2⟩; exact ⟨n, by omega, z2⟩
          · rintro ⟨n, z1, z2, z3, z4⟩
            by_cases e : n = k
            · subst e; exact absurd z2 q
            · exact ⟨n, by omega, z2, z3, z4⟩
/-- the cells looked at are those of K: the largest fraction of all, and whether it is reached -/
def Fts (A : Nat → Nat → Int32) (s p n : Nat) : Prop := FitS A s p (vC A n)
def Rea (A : Nat → Nat → Int32) (a b c : Int32) (cnt m s p : Nat) : Prop := (∃ n, n < cnt ∧ (Fts A s p n ∧ lq a b c (cC A m) (cC A n))) ∧ SidS A s p (vC A) (fun n => Fts A s p n ∧ lq a b c (cC A m) (cC A n)) cnt
def PkI (A : Nat → Nat → Int32) (a b c : Int32) (cnt : Nat) (K : Nat → Nat → Prop) (t : Tr) : Prop := ((∀ s p, K s p → ∀ n, n < cnt → ¬ Fts A s p n) ∧ t = (0, 0, 0)) ∨ ∃ m, m < cnt ∧ (∃ s p, K s p ∧ Fts A s p m) ∧ t.1 = N6 a b c (cC A m) ∧ t.2.1 = W6 (cC A m) ∧ (∀ s p, K s p → ∀ n, n < cnt → Fts A s p n → lq a b c (cC A n) (cC A m)) ∧ (t.2.2 = 0 ∨ t.2.2 = 1) ∧ (t.2.2 = 1 ↔ ∃ s p, K s p ∧ Rea A a b c cnt m s p)
theorem Rea_eq {A : Nat → Nat → Int32} {a b c : Int32} {cnt : Nat} (hB : ∀ n, n < cnt → CB (cC A n)) {m m2 : Nat} (hm : m < cnt) (hm2 : m2 < cnt) (h1 : lq a b c (cC A m) (cC A m2)) (h2 : lq a b c (cC A m2) (cC A m)) (s p : Nat) : Rea A a b c cnt m s p ↔ Rea A a b c cnt m2 s p := by
  have e : ∀ n, n < cnt → ((Fts A s p n ∧ lq a b c (cC A m) (cC A n)) ↔ (Fts A s p n ∧ lq a b c (cC A m2) (cC A n))) := fun n hn => and_congr Iff.rfl ⟨fun z => lq_tr (hB m hm).1 (hB m2 hm2).1 (hB n hn).1 h2 z, fun z => lq_tr (hB m2 hm2).1 (hB m hm).1 (hB n hn).1 h1 z⟩
  unfold Rea
  exact and_congr ⟨fun ⟨n, z1, z2⟩ => ⟨n, z1, (e n z1).mp z2⟩, fun ⟨n, z1, z2⟩ => ⟨n, z1, (e n z1).mpr z2⟩⟩ (SidS_P e)
/-- no corner of the cell comes up to m -/
theorem Rea_no {A : Nat → Nat → Int32} {a b c : Int32} {cnt m s p : Nat} (h : ∀ n, n < cnt → Fts A s p n → ¬ lq a b c (cC A m) (cC A n)) : ¬ Rea A a b c cnt m s p := by
  rintro ⟨⟨n, z1, z2, z3⟩, -⟩
  exact h n z1 z2 z3
theorem PkI.inc {A : Nat → Nat → Int32} {a b c : Int32} (hf : f9 a ∧ f9 b ∧ f9 c) {cnt : Nat} (hB : ∀ n, n < cnt → CB (cC A n)) (hS : ∀ n, n < cnt → Sd A n) {K K2 : Nat → Nat → Prop} {t : Tr} {s p : Nat} (h : PkI A a b c cnt K t) (hK : ∀ s2 p2, K2 s2 p2 ↔ (K s2 p2 ∨ (s2 = s ∧ p2 = p))) : PkI A a b c cnt K2 (incf t (ccf A a b c (ndc A s p) cnt) (sgc A s p)) := by
  have hcc := CcI.cc hf hB (ndc A s p) cnt (Nat.le_refl _)
  generalize ccf A a b c (ndc A s p) cnt = cc at hcc
  have fi : ∀ n, n < cnt → (fit A (ndc A s p) n ↔ Fts A s p n) := fun n hn => fit_iff (hS n hn) s p
  rcases hcc with ⟨h1, rfl⟩ | ⟨m, g1, g2, g3, g4, g5, g6⟩
  · unfold incf
    rw [if_pos rfl]
    have no : ∀ n, n < cnt → ¬ Fts A s p n := fun n hn z => h1 n hn ((fi n hn).mpr z)
    rcases h with ⟨e1, e2⟩ | ⟨m, e1, e2, e3, e4, e5, e6, e7⟩
    · refine Or.inl ⟨fun s2 p2 hk n hn => ?_, e2⟩
      rcases (hK s2 p2).mp hk with z | ⟨rfl, rfl⟩
      · exact e1 s2 p2 z n hn
      · exact no n hn
    · obtain ⟨s0, p0, k0, k1⟩ := e2
      refine Or.inr ⟨m, e1, ⟨s0, p0, (hK _ _).mpr (Or.inl k0), k1⟩, e3, e4, fun s2 p2 hk n hn hp => ?_, e6, ?_⟩
      · rcases (hK s2 p2).mp hk with z | ⟨rfl, rfl⟩
        · exact e5 s2 p2 z n hn hp
        · exact absurd hp (no n hn)
      · rw [e7]
        constructor
        · rintro ⟨s2, p2, z1, z2⟩; exact ⟨s2, p2, (hK _ _).mpr (Or.inl z1), z2⟩
        · rintro ⟨s2, p2, z1, z2⟩
          rcases (hK s2 p2).mp z1 with z | ⟨rfl, rfl⟩
          · exact ⟨s2, p2, z, z2⟩
          · exact absurd z2 (Rea_no (fun n hn hp => absurd hp (no n hn)))
  · have bm := hB m g1
    have fm := (fi m g1).mp g2
    -- the sides of the cell cover what it seeks
    have hcov : ((cc.2.2 &&& sgc A s p) = sgc A s p) ↔ Rea A a b c cnt m s p := by
      rw [sub_iff]
      have e := sg_iff hS s p (fun n => Fts A s p n ∧ lq a b c (cC A m) (cC A n))
      have e1 : (∀ i, i < 32 → tb (sgc A s p) i = true → tb cc.2.2 i = true) ↔ SidS A s p (vC A) (fun n => Fts A s p n ∧ lq a b c (cC A m) (cC A n)) cnt := by
        rw [← e]
        constructor
        · intro hh i hi hb
          obtain ⟨n, z1, z2, z3, z4⟩ := (g6 i hi).mp (hh i hi hb)
          exact ⟨n, z1, ⟨(fi n z1).mp z2, z3⟩, z4⟩
        · intro hh i hi hb
          obtain ⟨n, z1, ⟨z2, z3⟩, z4⟩ := hh i hi hb
          exact (g6 i hi).mpr ⟨n, z1, (fi n z1).mpr z2, z3, z4⟩
      rw [e1]
      exact ⟨fun z => ⟨⟨m, g1, fm, lq_rf _ _ _ _⟩, z⟩, fun z => z.2⟩
    have top : ∀ n, n < cnt → Fts A s p n → lq a b c (cC A n) (cC A m) := fun n hn hp => g5 n hn ((fi n hn).mpr hp)
    unfold incf
    rw [if_neg (by rw [g4]; exact W6_ne bm), g3, g4]
    rcases h with ⟨e1, rfl⟩ | ⟨m0, e1, e2, e3, e4, e5, e6, e7⟩
    · have o1 : 0 < ord (N6 a b c (cC A m)) (W6 (cC A m)) 0 0 := by
        unfold ord
        rw [if_pos rfl]
        decide
      rw [if_pos o1]
      refine Or.inr ⟨m, g1, ⟨s, p, (hK _ _).mpr (Or.inr ⟨rfl, rfl⟩), fm⟩, rfl, rfl, fun s2 p2 hk n hn hp => ?_, ?_, ?_⟩
      · rcases (hK s2 p2).mp hk with z | ⟨rfl, rfl⟩
        · exact absurd hp (e1 s2 p2 z n hn)
        · exact top n hn hp
      · show (if _ then (1 : Int32) else 0) = 0 ∨ (if _ then (1 : Int32) else 0) = 1
        split
        · exact Or.inr rfl
        · exact Or.inl rfl
      · show (if _ then (1 : Int32) else 0) = 1 ↔ _
        constructor
        · intro z
          split at z
          · rename_i zz
            exact ⟨s, p, (hK _ _).mpr (Or.inr ⟨rfl, rfl⟩), hcov.mp zz⟩
          · cases z
        · rintro ⟨s2, p2, z1, z2⟩
          rcases (hK s2 p2).mp z1 with z | ⟨rfl, rfl⟩
          · exact absurd z2 (Rea_no (fun n hn hp => absurd hp (e1 s2 p2 z n hn)))
          · rw [if_pos (hcov.mpr z2)]
    · have b0 := hB m0 e1
      have o := ord_gt (a := a) (b := b) (c := c) hf bm b0
      obtain ⟨s0, p0, k0, k1⟩ := e2
      rw [e3, e4]
      by_cases c1 : 0 < ord (N6 a b c (cC A m)) (W6 (cC A m)) (N6 a b c (cC A m0)) (W6 (cC A m0))
      · rw [if_pos c1]
        have n1 := o.1.mp c1
        have n2 : lq a b c (cC A m0) (cC A m) := (lq_tot a b c _ _).resolve_left n1
        refine Or.inr ⟨m, g1, ⟨s, p, (hK _ _).mpr (Or.inr ⟨rfl, rfl⟩), fm⟩, rfl, rfl, fun s2 p2 hk n hn hp => ?_, ?_, ?_⟩
        · rcases (hK s2 p2).mp hk with z | ⟨rfl, rfl⟩
          · exact lq_tr b0.1 (hB n hn).1 bm.1 (e5 s2 p2 z n hn hp) n2
          · exact top n hn hp
        · show (if _ then (1 : Int32) else 0) = 0 ∨ (if _ then (1 : Int32) else 0) = 1
          split
          · exact Or.inr rfl
          · exact Or.inl rfl
        · show (if _ then (1 : Int32) else 0) = 1 ↔ _
          constructor
          · intro z
            split at z
            · rename_i zz
              exact ⟨s, p, (hK _ _).mpr (Or.inr ⟨rfl, rfl⟩), hcov.mp zz⟩
            · cases z
          · rintro ⟨s2, p2, z1, z2⟩
            rcases (hK s2 p2).mp z1 with z | ⟨rfl, rfl⟩
            · exact absurd z2 (Rea_no (fun n hn hp zz => n1 (lq_tr (hB n hn).1 bm.1 b0.1 zz (e5 s2 p2 z n hn hp))))
            · rw [if_pos (hcov.mpr z2)]
      · rw [if_neg c1]
        have n1 : lq a b c (cC A m) (cC A m0) := Classical.byContradiction fun z => c1 (o.1.mpr z)
        have all : ∀ s2 p2, K2 s2 p2 → ∀ n, n < cnt → Fts A s2 p2 n → lq a b c (cC A n) (cC A m0) := fun s2 p2 hk n hn hp => by
          rcases (hK s2 p2).mp hk with z | ⟨rfl, rfl⟩
          · exact e5 s2 p2 z n hn hp
          · exact lq_tr bm.1 (hB n hn).1 b0.1 (top n hn hp) n1
        by_cases c2 : ord (N6 a b c (cC A m)) (W6 (cC A m)) (N6 a b c (cC A m0)) (W6 (cC A m0)) = 0
        · rw [if_pos c2]
          have n2 := (o.2.mp c2).2
          have rq := Rea_eq hB g1 e1 n1 n2 s p
          refine Or.inr ⟨m0, e1, ⟨s0, p0, (hK _ _).mpr (Or.inl k0), k1⟩, rfl, rfl, all, ?_, ?_⟩
          · show (if _ then (1 : Int32) else 0) = 0 ∨ (if _ then (1 : Int32) else 0) = 1
            split
            · exact Or.inr rfl
            · exact Or.inl rfl
          · show (if _ then (1 : Int32) else 0) = 1 ↔ _
            have e6' : ¬ t.2.2 = 0 ↔ t.2.2 = 1 := ⟨fun z => e6.resolve_left z, fun z => by rw [z]; decide⟩
            constructor
            · intro z
              split at z
              · rename_i zz
                rcases zz with zz | zz
                · obtain ⟨s2, p2, y1, y2⟩ := e7.mp (e6'.mp zz)
                  exact ⟨s2, p2, (hK _ _).mpr (Or.inl y1), y2⟩
                · exact ⟨s, p, (hK _ _).mpr (Or.inr ⟨rfl, rfl⟩), rq.mp (hcov.mp zz)⟩
              · cases z
            · rintro ⟨s2, p2, z1, z2⟩
              rcases (hK s2 p2).mp z1 with z | ⟨rfl, rfl⟩
              · rw [if_pos (Or.inl (e6'.mpr (e7.mpr ⟨s2, p2, z, z2⟩)))]
              · rw [if_pos (Or.inr (hcov.mpr (rq.mpr z2)))]
        · rw [if_neg c2]
          have n2 : ¬ lq a b c (cC A m0) (cC A m) := fun z => c2 (o.2.mpr ⟨n1, z⟩)
          refine Or.inr ⟨m0, e1, ⟨s0, p0, (hK _ _).mpr (Or.inl k0), k1⟩, e3, e4, all, e6, ?_⟩
          rw [e7]
          constructor
          · rintro ⟨s2, p2, z1, z2⟩; exact ⟨s2, p2, (hK _ _).mpr (Or.inl z1), z2⟩
          · rintro ⟨s2, p2, z1, z2⟩
            rcases (hK s2 p2).mp z1 with z | ⟨rfl, rfl⟩
            · exact ⟨s2, p2, z, z2⟩
            · exact absurd z2 (Rea_no (fun n hn hp zz => n2 (lq_tr (hB n hn).1 b0.1 bm.1 zz (top n hn hp))))

