/-! ===== what holds of the two between operations ===== -/
def Keep (A B : Nat → Nat → Int32) : Prop := (∀ o, 1 ≤ o → o ≤ 11 → B o = A o) ∧ (∀ p, 5 ≤ p → p < 14 → RC B p = RC A p) ∧ (∀ o, 28 ≤ o → o ≤ 31 → B o = A o) ∧ B 37 = A 37 ∧ B 27 4 = A 27 4 ∧ B 27 5 = A 27 5
theorem Keep.tr {A B C : Nat → Nat → Int32} (h : Keep A B) (h2 : Keep B C) : Keep A C :=
  ⟨fun o q1 q2 => (h2.1 o q1 q2).trans (h.1 o q1 q2), fun p q1 q2 => (h2.2.1 p q1 q2).trans (h.2.1 p q1 q2), fun o q1 q2 => (h2.2.2.1 o q1 q2).trans (h.2.2.1 o q1 q2), h2.2.2.2.1.trans h.2.2.2.1, h2.2.2.2.2.1.trans h.2.2.2.2.1, h2.2.2.2.2.2.trans h.2.2.2.2.2⟩
theorem Keep.rf {A B : Nat → Nat → Int32} (h : RfF A B) : Keep A B := by
  refine ⟨fun o q1 q2 => h.1 o (by omega) (by omega), fun p q1 q2 => ?_, fun o q1 q2 => h.1 o (by omega) (by omega), h.1 37 (by omega) (by omega), by rw [h.1 27 (by omega) (by omega)], by rw [h.1 27 (by omega) (by omega)]⟩
  obtain ⟨a1, a2, a3, a4⟩ := h.2.2.2 p q1
  unfold RC
  rw [a1, a2, a3, a4]
theorem Keep.kn {A B : Nat → Nat → Int32} (h : KnF A B) : Keep A B := by
  have e : ∀ o, o < 32 → o ≠ 27 → B o = A o := fun o q1 q2 => h.1 o (Or.inl q1) q2
  refine ⟨fun o q1 q2 => e o (by omega) (by omega), fun p q1 q2 => ?_, fun o q1 q2 => e o (by omega) (by omega), h.1 37 (by omega) (by omega), h.2 4 (by decide) (by decide) (by decide) (by decide) (by decide), h.2 5 (by decide) (by decide) (by decide) (by decide) (by decide)⟩
  unfold RC
  rw [e 13 (by omega) (by omega), e 14 (by omega) (by omega), e 15 (by omega) (by omega), e 16 (by omega) (by omega)]
theorem Keep.k26 {A B : Nat → Nat → Int32} (h : ∀ o k, o ≠ 26 → B o k = A o k) : Keep A B := by
  have e : ∀ o, o ≠ 26 → B o = A o := fun o q => funext fun k => h o k q
  refine ⟨fun o q1 q2 => e o (by omega), fun p q1 q2 => ?_, fun o q1 q2 => e o (by omega), e 37 (by omega), by rw [e 27 (by omega)], by rw [e 27 (by omega)]⟩
  unfold RC
  rw [e 13 (by omega), e 14 (by omega), e 15 (by omega), e 16 (by omega)]
theorem Keep.k18 {A B : Nat → Nat → Int32} (h : R18 A B) : Keep A B := by
  refine ⟨fun o q1 q2 => h.row (by omega), fun p q1 q2 => ?_, fun o q1 q2 => h.row (by omega), h.row (by omega), h 27 4 (by omega), h 27 5 (by omega)⟩
  unfold RC
  rw [h.row (o := 13) (by omega), h.row (o := 14) (by omega), h.row (o := 15) (by omega), h.row (o := 16) (by omega)]
theorem row_ex {A B : Nat → Nat → Int32} (h : Keep A B) : (∀ k, Lin B k = Lin A k) ∧ (∀ k, row3 B k = row3 A k) ∧ ∀ k, row29 B k = row29 A k := by
  refine ⟨fun k => ?_, fun k => ?_, fun k => ?_⟩
  · unfold Lin; rw [h.2.2.1 28 (by omega) (by omega)]
  · unfold row3; rw [h.1 3 (by omega) (by omega), h.1 4 (by omega) (by omega), h.1 5 (by omega) (by omega), h.1 6 (by omega) (by omega)]
  · unfold row29; rw [h.2.2.1 29 (by omega) (by omega)]
theorem Keep.cpl {A B : Nat → Nat → Int32} {dm ncl : Nat} (k : Keep A B) (h : Cpl A dm ncl) : Cpl B dm ncl := by
  obtain ⟨⟨f1, f2, f3, f4, f5, f6⟩, h2, h3, h4, h5, h6, h7, h8⟩ := h
  have r : ∀ o, 1 ≤ o → o ≤ 11 → B o = A o := k.1
  have q : ∀ o, 28 ≤ o → o ≤ 31 → B o = A o := k.2.2.1
  obtain ⟨x1, x2, x3⟩ := row_ex k
  refine ⟨⟨FOk_c (r 2 (by omega) (by omega)) (r 7 (by omega) (by omega)) (r 8 (by omega) (by omega)) f1, ?_, by rw [r 1 (by omega) (by omega)]; exact f3, f4, by rw [r 9 (by omega) (by omega)]; exact f5, f6⟩, ?_, ?_, ⟨?_, ?_⟩, ?_, ?_, by rw [k.2.2.2.2.1]; exact h7, ?_⟩
  · simpa only [LitOk, lit, r 10 (by omega) (by omega)] using f2
  · rw [q 28 (by omega) (by omega), r 2 (by omega) (by omega)]; exact h2
  · unfold Cp2
    rw [q 29 (by omega) (by omega), r 2 (by omega) (by omega), r 7 (by omega) (by omega), r 8 (by omega) (by omega)]; exact h3
  · intro j hj hl
    rw [x1] at hl
    rw [x2, x3, r 6 (by omega) (by omega)]
    exact h4.1 j hj hl
  · intro j hj hl
    rw [x1] at hl
    rw [x2]
    exact h4.2 j hj hl
  · intro p q1 q2
    rw [k.2.1 p q1 q2]
    exact h5 p q1 q2
  · rw [r 2 (by omega) (by omega)]; exact h6
  · rw [q 30 (by omega) (by omega), r 10 (by omega) (by omega)]; exact h8
def Bas (A : Nat → Nat → Int32) (dm ncl lv : Nat) : Prop := Cpl A dm ncl ∧ (∀ p, p < 5 → A 37 p = nI (part p)) ∧ (A 9 3 = nI lv ∧ A 27 5 = nI lv ∧ lv ≤ 4) ∧ ∀ i, i < lv → ∃ m, m ≤ 8 ∧ A 11 i = nI m ∧ A 31 i = nI m
theorem Keep.bas {A B : Nat → Nat → Int32} {dm ncl lv : Nat} (k : Keep A B) (h : Bas A dm ncl lv) : Bas B dm ncl lv := by
  obtain ⟨h1, h2, ⟨h3, h4, h5⟩, h6⟩ := h
  refine ⟨k.cpl h1, by rw [k.2.2.2.1]; exact h2, ⟨by rw [k.1 9 (by omega) (by omega)]; exact h3, by rw [k.2.2.2.2.2]; exact h4, h5⟩, ?_⟩
  rw [k.1 11 (by omega) (by omega), k.2.2.1 31 (by omega) (by omega)]
  exact h6
theorem CacheI_c {A B : Nat → Nat → Int32} {cnt : Nat} (h1 : ∀ o, 2 ≤ o → o ≤ 8 → B o = A o) (h2 : B 12 9 = A 12 9) (h3 : ∀ o, 13 ≤ o → o ≤ 25 → B o = A o) (h : CacheI A cnt) : CacheI B cnt := by
  have c2 := h1 2 (by omega) (by omega)
  have c3 := h1 3 (by omega) (by omega)
  have c4 := h1 4 (by omega) (by omega)
  have c5 := h1 5 (by omega) (by omega)
  have c6 := h1 6 (by omega) (by omega)
  have c7 := h1 7 (by omega) (by omega)
  have c8 := h1 8 (by omega) (by omega)
  have d := h3
  have g13 := h3 13 (by omega) (by omega)
  have g14 := h3 14 (by omega) (by omega)
  have g15 := h3 15 (by omega) (by omega)
  have g16 := h3 16 (by omega) (by omega)
  have y1 : ∀ p q r, cx B p q r = cx A p q r := fun p q r => by unfold cx D0; rw [g13, g14, g15, g16]
  have y2 : ∀ p q r, cy B p q r = cy A p q r := fun p q r => by unfold cy D0; rw [g13, g14, g15, g16]
  have y3 : ∀ p q r, cz B p q r = cz A p q r := fun p q r => by unfold cz D0; rw [g13, g14, g15, g16]
  have y4 : ∀ p q r, cw B p q r = cw A p q r := fun p q r => by unfold cw D0; rw [g13, g14, g15]
  have y5 : ∀ p q r, InB B p q r ↔ InB A p q r := fun p q r => by unfold InB; rw [y1, y2, y3, y4]; unfold D0; rw [g13, g14, g15]
  have y6 : ∀ n p q r, AtC B B n p q r ↔ AtC A A n p q r := fun n p q r => by
    unfold AtC
    rw [y1, y2, y3, y4, fsd_c g13 g14 g15 g16, h3 17 (by omega) (by omega), h3 18 (by omega) (by omega), h3 19 (by omega) (by omega), h3 20 (by omega) (by omega), h3 21 (by omega) (by omega)]
  obtain ⟨e1, e2, e3, e4, e5⟩ := h
  refine ⟨e1, h2.trans e2, by rw [g13, g14, g15, g16, c3, c4, c5, c6]; exact e3, ⟨fun p q r q1 q2 q3 q4 => ?_, fun n hn => ?_⟩, fun s p hs hp => ?_⟩
  · obtain ⟨n, z1, z2⟩ := e4.1 p q r q1 q2 q3 ((y5 p q r).mp q4)
    exact ⟨n, z1, (y6 n p q r).mpr z2⟩
  · obtain ⟨p, q, r, z1, z2, z3, z4, z5⟩ := e4.2 n hn
    exact ⟨p, q, r, z1, z2, z3, (y5 p q r).mpr z4, (y6 n p q r).mpr z5⟩
  · have n1 : ndc B s p = ndc A s p := by unfold ndc; rw [snd_c c2]
    have n2 : sgc B s p = sgc A s p := by unfold sgc; rw [ssg_c c2]
    have n3 : Opn B s p cnt = Opn A s p cnt := by
      unfold Opn
      rw [n1, n2, HasF_c c2 c7 c8, HavP_c (h3 21 (by omega) (by omega))]
    rw [n1, n2, n3, h3 23 (by omega) (by omega), h3 24 (by omega) (by omega), h3 25 (by omega) (by omega)]
    exact e5 s p hs hp
theorem MCache_c {A B : Nat → Nat → Int32} {cnt : Nat} (h13 : B 27 13 = A 27 13) (h19 : B 27 19 = A 27 19) (h20 : B 27 20 = A 27 20) (h28 : B 28 = A 28) (h29 : B 29 = A 29) (h3 : ∀ o, 32 ≤ o → o ≤ 36 → B o = A o) (h38 : B 38 = A 38) (h : MCache A cnt) : MCache B cnt := by
  obtain ⟨e1, e2, e3, e4, ⟨e5, e6⟩, e7⟩ := h
  have g32 := h3 32 (by omega) (by omega)
  have g33 := h3 33 (by omega) (by omega)
  have g34 := h3 34 (by omega) (by omega)
  have g35 := h3 35 (by omega) (by omega)
  have g36 := h3 36 (by omega) (by omega)
  have ha : apl B 5 = apl A 5 := apl_c h28 h29 5
  refine ⟨e1, h13.trans e2, ?_, ⟨fun i j k q1 q2 q3 q4 => ?_, fun n hn => ?_⟩, ⟨by rw [h19, okf_c h28]; exact e5, by rw [h20, okf_c h28]; exact e6⟩, fun s p hs hp => ?_⟩
  · unfold PlR
    rw [ha, g32]
    exact e3
  · rw [ha] at q3
    rw [InM_c g32] at q4
    obtain ⟨n, z1, z2⟩ := e4.1 i j k q1 q2 q3 q4
    exact ⟨n, z1, MAt_c h28 h29 g32 g33 g34 g35 g36 z2⟩
  · obtain ⟨i, j, k, z1, z2, z3, z4, z5⟩ := e4.2 n hn
    exact ⟨i, j, k, z1, z2, by rw [ha]; exact z3, by rw [InM_c g32]; exact z4, MAt_c h28 h29 g32 g33 g34 g35 g36 z5⟩
  · rw [h38, PosV_c h28 h29 g34 g35 g36]
    exact e7 s p hs hp
def GIv (G : Nat → Nat → Int64) : Prop := (G 27 22 = 0 ∧ G 0 6 = 0 ∧ G 0 7 = 0) ∨ ∃ (x : Int) (w : Nat), (0 < w ∧ w ≤ 4374 ∧ x.natAbs ≤ 2361960) ∧ G 27 21 = Int64.ofInt x ∧ G 27 22 = lN w ∧ G 0 6 = Int64.ofInt x / lN (x.natAbs.gcd w) ∧ G 0 7 = lN w / lN (x.natAbs.gcd w)
def Hst (A : Nat → Nat → Int32) : Prop := A 0 5 = 0 → ∃ cnt, CacheI A cnt
def Hkn (A : Nat → Nat → Int32) : Prop := ¬ A 27 6 = 0 → A 27 6 = 1 ∧ ∃ cnt, MCache A cnt
def Inv (A : Nat → Nat → Int32) (G : Nat → Nat → Int64) (dm ncl lv : Nat) : Prop := Bas A dm ncl lv ∧ Hst A ∧ Hkn A ∧ GIv G
theorem Bas.lm {A : Nat → Nat → Int32} {dm ncl lv : Nat} (h : Bas A dm ncl lv) : LitOkM A := by
  intro i hi
  have e := h.1.2.2.2.2.2.2.2 i hi
  have := h.1.1.2.1 i hi
  unfold litM
  rw [e]
  exact this
theorem Hst.c {A B : Nat → Nat → Int32} (h : Hst A) (h1 : ∀ o, o ≤ 8 → B o = A o) (h2 : B 12 9 = A 12 9) (h3 : ∀ o, 13 ≤ o → o ≤ 25 → B o = A o) : Hst B := by
  intro q
  rw [h1 0 (by omega)] at q
  obtain ⟨cnt, hc⟩ := h q
  exact ⟨cnt, CacheI_c (fun o _ q2 => h1 o q2) h2 h3 hc⟩
theorem Hkn.c {A B : Nat → Nat → Int32} (h : Hkn A) (hk : ∀ k, k ≠ 4 → k ≠ 5 → B 27 k = A 27 k) (h28 : B 28 = A 28) (h29 : B 29 = A 29) (h3 : ∀ o, 32 ≤ o → o ≤ 36 → B o = A o) (h38 : B 38 = A 38) : Hkn B := by
  intro q
  rw [hk 6 (by decide) (by decide)] at q ⊢
  obtain ⟨z, cnt, hc⟩ := h q
  exact ⟨z, cnt, MCache_c (hk 13 (by decide) (by decide)) (hk 19 (by decide) (by decide)) (hk 20 (by decide) (by decide)) h28 h29 h3 h38 hc⟩
