/-! ===== asking for the greatest value in the law's states ===== -/
def Nrr (A : Nat → Nat → Int32) : Prop := (∀ k, k < 5 → Nrm (row3 A k)) ∧ Fixp A
theorem Nrr.rf {A A2 : Nat → Nat → Int32} (h : Nrr A) (hr : RfF A A2) : Nrr A2 := by
  refine ⟨fun k hk => ?_, fun p q1 q2 => ?_⟩
  · have := h.1 k hk
    unfold row3 at this ⊢
    rw [hr.1 3 (by decide) (by decide), hr.1 4 (by decide) (by decide), hr.1 5 (by decide) (by decide), hr.1 6 (by decide) (by decide)]
    exact this
  · have := h.2 p q1 q2
    obtain ⟨a1, a2, a3, a4⟩ := hr.2.2.2 p q1
    unfold RC at this ⊢
    rw [a1, a2, a3, a4]
    exact this
theorem Nrr.cb {A : Nat → Nat → Int32} {cnt : Nat} (h : Nrr A) (hC : CacheI A cnt) : ∀ n, n < cnt → CB (cC A n) := by
  refine hC.2.2.2.1.cb fun p hp => ?_
  by_cases q : p < 5
  · obtain ⟨a1, a2, a3, a4⟩ := hC.2.2.1 p q
    have := h.1 p q
    unfold row3 at this
    unfold RC
    rw [a1, a2, a3, a4]
    exact this
  · rw [h.2 p (by omega) hp]
    exact fx9_nrm _ (by unfold fxi; split <;> omega)
theorem Nrr.ext {B A : Nat → Nat → Int32} {ncl j lv : Nat} {lf : Nat → Nat} (hB : Nrr B) (h : Ext B A ncl lf j lv) : Nrr A := by
  have e := fun o (q1 : o ≠ 9) (q2 : o ≠ 10) (q3 : o ≠ 11) (q4 : o ≠ 26) => h.1 o q1 q2 q3 q4
  refine ⟨fun k hk => ?_, fun p q1 q2 => ?_⟩
  · have := hB.1 k hk
    unfold row3 at this ⊢
    rw [e 3 (by decide) (by decide) (by decide) (by decide), e 4 (by decide) (by decide) (by decide) (by decide), e 5 (by decide) (by decide) (by decide) (by decide), e 6 (by decide) (by decide) (by decide) (by decide)]
    exact this
  · have := hB.2 p q1 q2
    unfold RC at this ⊢
    rw [e 13 (by decide) (by decide) (by decide) (by decide), e 14 (by decide) (by decide) (by decide) (by decide), e 15 (by decide) (by decide) (by decide) (by decide), e 16 (by decide) (by decide) (by decide) (by decide)]
    exact this
theorem cnt_u {A : Nat → Nat → Int32} {c1 c2 : Nat} (h1 : CacheI A c1) (h2 : CacheI A c2) : c1 = c2 :=
  nI_inj (by have := h1.1; omega) (by have := h2.1; omega) (h1.2.1.symm.trans h2.2.1)
theorem PkI_c {A B : Nat → Nat → Int32} (h : ∀ o, o ≠ 9 → o ≠ 10 → o ≠ 11 → o ≠ 26 → A o = B o) {a b c : Int32} {cnt : Nat} {K : Nat → Nat → Prop} {t : Tr} (hP : PkI A a b c cnt K t) : PkI B a b c cnt K t := by
  have e2 := h 2 (by decide) (by decide) (by decide) (by decide)
  have e13 := h 13 (by decide) (by decide) (by decide) (by decide)
  have e14 := h 14 (by decide) (by decide) (by decide) (by decide)
  have e15 := h 15 (by decide) (by decide) (by decide) (by decide)
  have e16 := h 16 (by decide) (by decide) (by decide) (by decide)
  have e17 := h 17 (by decide) (by decide) (by decide) (by decide)
  have e18 := h 18 (by decide) (by decide) (by decide) (by decide)
  have e19 := h 19 (by decide) (by decide) (by decide) (by decide)
  have e20 := h 20 (by decide) (by decide) (by decide) (by decide)
  have eC : cC A = cC B := by
    funext n
    unfold cC
    rw [e17, e18, e19, e20]
  have eV : vC A = vC B := by
    funext n t
    unfold vC fov
    rw [e13, e14, e15, e16, e17, e18, e19, e20]
  have eF : Fts A = Fts B := by
    funext s p n
    unfold Fts FitS
    rw [eV, e2]
  have eR : Rea A = Rea B := by
    funext a b c cnt m s p
    unfold Rea SidS
    rw [eF, eV, eC, e2]
  unfold PkI at hP ⊢
  rw [eF, eR, eC] at hP
  exact hP
def Kj (B : Nat → Nat → Int32) (dm ncl : Nat) (lf : Nat → Nat) (j : Nat) (s p : Nat) : Prop := Cel B dm ncl s p ∧ ∀ i, i < j → HL s (lf i)
theorem Ext.cel {B A : Nat → Nat → Int32} {dm ncl j lv : Nat} {lf : Nat → Nat} (h : Ext B A ncl lf j lv) (hl : ∀ i, i < j → lf i < 10) (s p : Nat) : Cel A dm (ncl + j) s p ↔ Kj B dm ncl lf j s p := by
  unfold Cel Kj Cel
  rw [h.wd hl s, h.1 23 (by decide) (by decide) (by decide) (by decide)]
  constructor
  · rintro ⟨h1, h2, ⟨h3, h4⟩, h5⟩; exact ⟨⟨h1, h2, h3, h5⟩, h4⟩
  · rintro ⟨⟨h1, h2, h3, h5⟩, h4⟩; exact ⟨h1, h2, ⟨h3, h4⟩, h5⟩
theorem Ext.pk {B A : Nat → Nat → Int32} {dm ncl j lv cnt : Nat} {lf : Nat → Nat} (hB : Std B dm ncl cnt) (hN : Nrr B) (h : Ext B A ncl lf j lv) (hl : ∀ i, i < j → lf i < 10) (h8 : ncl + j ≤ 8) {a b c : Int32} (hf : f9 a ∧ f9 b ∧ f9 c) : PkI B a b c cnt (Kj B dm ncl lf j) (pkw A a b c dm (ncl + j) cnt 32) := by
  have hC := h.ci hB.2.1
  have := pkT (dm := dm) (ncl := ncl + j) hf hC ((hN.ext h).cb hC)
  exact PkI_c h.1 (this.K fun s p => h.cel hl s p)
theorem q_most (l : Launch) {B A : Nat → Nat → Int32} (G : Nat → Nat → Int64) {dm ncl j lv cnt : Nat} {lf : Nat → Nat} (hB : Std B dm ncl cnt) (hN : Nrr B) (h : Ext B A ncl lf j lv) (hl : ∀ i, i < j → lf i < 10) (h8 : ncl + j ≤ 8) {a b c : Int32} (hf : f9 a ∧ f9 b ∧ f9 c) :
    Sem l mX5_most [.ref 0, .int a, .int b, .int c] 27 (A, G, PF) 27 (fun r M2 => ∃ A3 G3 v, r = some (.int v) ∧ M2 = (A3, G3, PF) ∧ Ext B A3 ncl lf j lv ∧ Tp B a b c cnt (Kj B dm ncl lf j) v (G3 0 6) (G3 0 7)) := by
  have hS := h.std hB h8
  refine (s_X5_most l A G dm (ncl + j) hS.1 (fun _ => ⟨cnt, hS.2.1⟩) a b c (fun _ A2 c2 hr hc => numOk hf hc (((hN.ext h).rf hr).cb hc))).mono ?_
  rintro v M (⟨z, -⟩ | ⟨-, A2, A3, G3, c2, h0, w0, rfl, ⟨m1, m2, m3, m4, m5⟩, n1, n2, n3, rfl⟩)
  · exact absurd hf z
  · have e := m3.2 hS.2.2
    subst e
    have e := cnt_u m1 hS.2.1
    subst e
    refine ⟨A3, G3, _, rfl, rfl, h.k26 m4, ?_⟩
    rw [n2, n3]
    exact tp_of hf (hN.cb hB.2.1) (h.pk hB hN hl h8 hf) n1
theorem q_bnd (l : Launch) {B A : Nat → Nat → Int32} (G : Nat → Nat → Int64) {dm ncl j lv cnt : Nat} {lf : Nat → Nat} (hB : Std B dm ncl cnt) (hN : Nrr B) (h : Ext B A ncl lf j lv) (hl : ∀ i, i < j → lf i < 10) (h8 : ncl + j ≤ 8) {a b c d : Int32} (hf : f9 a ∧ f9 b ∧ f9 c) (hd : f99 d) :
    Sem l mX5_bounded [.ref 0, .int a, .int b, .int c, .int d] 27 (A, G, PF) 27 (fun r M2 => ∃ A3 G3 t, M2 = (A3, G3, PF) ∧ Ext B A3 ncl lf j lv ∧ PkI B a b c cnt (Kj B dm ncl lf j) t ∧ r = some (.int (bi (t.1 ≤ d.toInt64 * t.2.1)))) := by
  have hS := h.std hB h8
  refine (s_X5_bounded l A G dm (ncl + j) hS.1 (fun _ => ⟨cnt, hS.2.1⟩) a b c d).mono ?_
  rintro v M (⟨z, -⟩ | ⟨-, A2, A3, G3, c2, rfl, ⟨m1, m2, m3, m4, m5⟩, -, -, rfl⟩)
  · exact absurd ⟨hf, hd⟩ z
  · have e := m3.2 hS.2.2
    subst e
    have e := cnt_u m1 hS.2.1
    subst e
    exact ⟨A3, G3, _, rfl, h.k26 m4, h.pk hB hN hl h8 hf, rfl⟩
/-- every world has a corner of its own -/
theorem w_fit {B : Nat → Nat → Int32} {dm ncl cnt : Nat} (hB : Std B dm ncl cnt) {s : Nat} (hs : s < 32) (hw : Wd B dm ncl s) : ∃ p n, Cel B dm ncl s p ∧ n < cnt ∧ Fts B s p n := by
  obtain ⟨p, hp, h23⟩ := hw.2.1
  have h := h23
  rw [(hB.2.1.2.2.2.2 s p hs hp).2.2] at h
  have hO := bi_n.mp h
  obtain ⟨⟨n, h1, h2⟩, -⟩ := (HavP_iff hB.2.1.2.2.2.1.sd s p).mp hO.2
  exact ⟨p, n, ⟨hs, hp, hw, h23⟩, h1, h2⟩
/-- the literals that fix the world s -/
def lfw (s i : Nat) : Nat := 2 * i + 1 - (if s.testBit i = true then 1 else 0)
theorem lfw_ok : ∀ s, s < 32 → ∀ i, i < 5 → lfw s i < 10 ∧ lfw s i / 2 = i ∧ lfw s i < 2 * i + 2 := by decide +kernel
theorem lfw_I : ∀ s, s < 32 → ∀ i, i < 5 → ((2 * nI i) + 1) - ((nI s >>> (nI i &&& 31)) &&& 1) = nI (lfw s i) := by decide +kernel
theorem lfw_HL : ∀ s, s < 32 → ∀ s0, s0 < 32 → ∀ i, i < 5 → (HL s (lfw s0 i) ↔ s.testBit i = s0.testBit i) := by
  have h : ∀ s, s < 32 → ∀ s0, s0 < 32 → ∀ i, i < 5 → ((s.testBit (lfw s0 i / 2) = true ↔ lfw s0 i % 2 = 0) ↔ s.testBit i = s0.testBit i) := by decide +kernel
  exact h
theorem pick {mm P dm : Nat} (hM : Mm mm P dm) : ∀ s, s < P → ∀ s0, s0 < P → ((∀ i, i < mm → HL s (lfw s0 i)) ↔ s = s0) := by
  have g2 : ∀ s, s < 4 → ∀ s0, s0 < 4 → (∀ i, i < 2 → s.testBit i = s0.testBit i) → s = s0 := by decide +kernel
  have g3 : ∀ s, s < 8 → ∀ s0, s0 < 8 → (∀ i, i < 3 → s.testBit i = s0.testBit i) → s = s0 := by decide +kernel
  have g4 : ∀ s, s < 16 → ∀ s0, s0 < 16 → (∀ i, i < 4 → s.testBit i = s0.testBit i) → s = s0 := by decide +kernel
  have g5 : ∀ s, s < 32 → ∀ s0, s0 < 32 → (∀ i, i < 5 → s.testBit i = s0.testBit i) → s = s0 := by decide +kernel
  intro s hs s0 hs0
  have hP := hM.le
  constructor
  · intro h
    have h2 : ∀ i, i < mm → s.testBit i = s0.testBit i := fun i hi => (lfw_HL s (by omega) s0 (by omega) i (by omega)).mp (h i hi)
    rcases hM with ⟨rfl, rfl, rfl⟩ | ⟨rfl, rfl, rfl⟩ | ⟨rfl, rfl, rfl⟩ | ⟨rfl, rfl, rfl⟩
    · exact g2 s hs s0 hs0 h2
    · exact g3 s hs s0 hs0 h2
    · exact g4 s hs s0 hs0 h2
    · exact g5 s hs s0 hs0 h2
  · rintro rfl i hi
    exact (lfw_HL s (by omega) s (by omega) i (by omega)).mpr rfl
theorem cnt_one {A : Nat → Nat → Int32} {dm n s0 : Nat} (h : ∀ s, s < 32 → (Wd A dm n s ↔ s = s0)) : ∀ k, k ≤ 32 → cntw A dm n k = if s0 < k then 1 else 0 := by
  intro k
  induction k with
  | zero => intro _; rfl
  | succ k ih =>
    intro hk
    have ih := ih (by omega)
    by_cases e : k = s0
    · rw [cntw_t ((h k (by omega)).mpr e), ih, if_neg (by omega), if_pos (by omega)]
    · rw [cntw_f (fun z => e ((h k (by omega)).mp z)), ih]
      by_cases q : s0 < k
      · rw [if_pos q, if_pos (by omega)]
      · rw [if_neg q, if_neg (by omega)]
theorem Ext.one {B A : Nat → Nat → Int32} {mm P dm ncl lv s0 : Nat} (hM : Mm mm P dm) (h : Ext B A ncl (lfw s0) mm lv) (hs0 : s0 < P) (hw : Wd B dm ncl s0) : cntw A dm (ncl + mm) 32 = 1 := by
  have hP := hM.le
  have := cnt_one (A := A) (dm := dm) (n := ncl + mm) (s0 := s0) (fun s hs => by
    rw [h.wd (fun i hi => (lfw_ok s0 (by omega) i (by omega)).1) s]
    constructor
    · rintro ⟨z1, z2⟩
      exact (pick hM s (hM.wd s hs z1) s0 hs0).mp z2
    · rintro rfl
      exact ⟨hw, (pick hM s hs0 s hs0).mpr rfl⟩) 32 (Nat.le_refl _)
  rw [this, if_pos (by omega)]
def Eqs (B : Nat → Nat → Int32) (a b c : Int32) (dm ncl cnt : Nat) (x w : Int) (s : Nat) : Prop := ∃ p n, Cel B dm ncl s p ∧ n < cnt ∧ Fts B s p n ∧ geV B a b c x w n
def Res (B : Nat → Nat → Int32) (a b c : Int32) (dm ncl cnt : Nat) (x w : Int) (s : Nat) : Prop := ∃ p, Cel B dm ncl s p ∧ Rx B a b c cnt x w s p
theorem Res.eq {B : Nat → Nat → Int32} {a b c : Int32} {dm ncl cnt : Nat} {x w : Int} {s : Nat} (h : Res B a b c dm ncl cnt x w s) : Eqs B a b c dm ncl cnt x w s := by
  obtain ⟨p, h1, ⟨n, h2, h3, h4⟩, -⟩ := h
  exact ⟨p, n, h1, h2, h3, h4⟩
/-- what the law finds in one world -/
theorem in_world {B : Nat → Nat → Int32} {a b c : Int32} {mm P dm ncl cnt s0 : Nat} (hM : Mm mm P dm) (hB : Std B dm ncl cnt) (hN : Nrr B) {x w : Int} (hx : Mx B a b c cnt (Cel B dm ncl) x w) (hs0 : s0 < P) (hw : Wd B dm ncl s0) {v : Int32} {up dw : Int64} (hT : Tp B a b c cnt (Kj B dm ncl (lfw s0) mm) v up dw) :
    (v = 1 ∨ v = 2) ∧ ∃ o, cmpI up dw (Int64.ofInt x) (Int64.ofInt w) = o ∧ (o = -1 ∨ o = 0) ∧ (o = 0 ↔ Eqs B a b c dm ncl cnt x w s0) ∧ ((o = 0 ∧ v = 2) ↔ Res B a b c dm ncl cnt x w s0) := by
  have hP := hM.le
  have hK : ∀ s p, Kj B dm ncl (lfw s0) mm s p ↔ (Cel B dm ncl s p ∧ s = s0) := fun s p => by
    constructor
    · rintro ⟨z1, z2⟩
      exact ⟨z1, (pick hM s (hM.wd s z1.1 z1.2.2.1) s0 hs0).mp z2⟩
    · rintro ⟨z1, rfl⟩
      exact ⟨z1, (pick hM s hs0 s hs0).mpr rfl⟩
  have hCB := hN.cb hB.2.1
  rcases hT with ⟨h1, -⟩ | ⟨x2, w2, h2, rfl, rfl, h3, h4⟩
  · obtain ⟨p, n, z1, z2, z3⟩ := w_fit hB (by omega) hw
    exact absurd z3 (h1 s0 p ((hK s0 p).mpr ⟨z1, rfl⟩) n z2)
  · have hsub : ∀ s p, Kj B dm ncl (lfw s0) mm s p → Cel B dm ncl s p := fun s p z => z.1
    have hle := mx_le hCB hx h2 hsub
    have heq := mx_eq hCB hx h2 hsub
    have hE : x2 * w = x * w2 ↔ Eqs B a b c dm ncl cnt x w s0 := by
      rw [heq]
      constructor
      · rintro ⟨s, p, n, z1, z2, z3, z4⟩
        obtain ⟨y1, rfl⟩ := (hK s p).mp z1
        exact ⟨p, n, y1, z2, z3, z4⟩
      · rintro ⟨p, n, z1, z2, z3, z4⟩
        exact ⟨s0, p, n, (hK s0 p).mpr ⟨z1, rfl⟩, z2, z3, z4⟩
    refine ⟨h3, _, cmp_I hx.1 h2.1, ?_, ?_, ?_⟩
    · by_cases q : x2 * w < x * w2
      · rw [if_pos q]; exact Or.inl rfl
      · rw [if_neg q, if_neg (by omega)]; exact Or.inr rfl
    · rw [← hE]
      by_cases q : x2 * w < x * w2
      · rw [if_pos q]
        exact ⟨fun z => absurd z (by decide), fun z => by omega⟩
      · rw [if_neg q, if_neg (by omega)]
        exact ⟨fun _ => by omega, fun _ => rfl⟩
    · by_cases q : x2 * w < x * w2
      · rw [if_pos q]
        constructor
        · rintro ⟨z, -⟩
          exact absurd z (by decide)
        · intro z
          have := hE.mpr z.eq
          omega
      · rw [if_neg q, if_neg (by omega)]
        have e : x2 * w = x * w2 := by omega
        have hR := fun s p => Rx_c (cnt := cnt) (fun n _ => ge_c (B := B) (a := a) (b := b) (c := c) hx.1.1 h2.1.1 e n) s p
        constructor
        · rintro ⟨-, z⟩
          obtain ⟨s, p, y1, y2⟩ := h4.mp z
          obtain ⟨y3, rfl⟩ := (hK s p).mp y1
          exact ⟨p, y3, (hR s p).mp y2⟩
        · rintro ⟨p, y1, y2⟩
          exact ⟨rfl, h4.mpr ⟨s0, p, (hK s0 p).mpr ⟨y1, rfl⟩, (hR s0 p).mpr y2⟩⟩
