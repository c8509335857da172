/-! ===== the desk between the law's calls ===== -/
/-- how many atoms, how many sets of them, which are defined -/
def Mm (mm P dm : Nat) : Prop := (mm = 2 ∧ P = 4 ∧ dm = 3) ∨ (mm = 3 ∧ P = 8 ∧ dm = 7) ∨ (mm = 4 ∧ P = 16 ∧ dm = 15) ∨ (mm = 5 ∧ P = 32 ∧ dm = 31)
theorem Mm.pw {mm P dm : Nat} (h : Mm mm P dm) : (1 : Int32) <<< (nI mm &&& 31) = nI P := by
  rcases h with ⟨rfl, rfl, rfl⟩ | ⟨rfl, rfl, rfl⟩ | ⟨rfl, rfl, rfl⟩ | ⟨rfl, rfl, rfl⟩ <;> decide
theorem Mm.le {mm P dm : Nat} (h : Mm mm P dm) : P ≤ 32 ∧ 4 ≤ P ∧ dm < 32 ∧ mm ≤ 5 ∧ 2 ≤ mm ∧ P = dm + 1 := by
  rcases h with ⟨rfl, rfl, rfl⟩ | ⟨rfl, rfl, rfl⟩ | ⟨rfl, rfl, rfl⟩ | ⟨rfl, rfl, rfl⟩ <;> decide
theorem Mm.and {mm P dm : Nat} (h : Mm mm P dm) : ∀ s, s < 32 → (s &&& dm = s ↔ s < P) := by
  rcases h with ⟨rfl, rfl, rfl⟩ | ⟨rfl, rfl, rfl⟩ | ⟨rfl, rfl, rfl⟩ | ⟨rfl, rfl, rfl⟩ <;> decide
theorem Mm.tb {mm P dm : Nat} (h : Mm mm P dm) : ∀ j, j < 10 → j < 2 * mm → dm.testBit (j / 2) = true := by
  rcases h with ⟨rfl, rfl, rfl⟩ | ⟨rfl, rfl, rfl⟩ | ⟨rfl, rfl, rfl⟩ | ⟨rfl, rfl, rfl⟩ <;> decide
theorem nI_and : ∀ s, s < 32 → ∀ d, d < 32 → nI s &&& nI d = nI (s &&& d) := by decide +kernel
theorem Mm.nand {mm P dm : Nat} (h : Mm mm P dm) {s : Nat} (hs : s < P) : nI s &&& nI dm = nI s := by
  have := h.le
  rw [nI_and s (by omega) dm (by omega), (h.and s (by omega)).mpr hs]
theorem Mm.wd {mm P dm : Nat} (h : Mm mm P dm) {A : Nat → Nat → Int32} {ncl : Nat} : ∀ s, s < 32 → Wd A dm ncl s → s < P := fun s hs hw => (h.and s hs).mp hw.1
theorem Mm.wI {mm P dm : Nat} (h : Mm mm P dm) (A : Nat → Nat → Int32) (ncl : Nat) : wI (Wd A dm ncl) P = wI (Wd A dm ncl) 32 := wI_32 h.le.1 h.wd
/-- the caches stand -/
def Std (A : Nat → Nat → Int32) (dm ncl cnt : Nat) : Prop := KI A dm ncl ∧ CacheI A cnt ∧ A 0 5 = 0
/-- j clauses of one literal each on top of B's ncl, behind a push (lv = 1) or without -/
def Ext (B A : Nat → Nat → Int32) (ncl : Nat) (lf : Nat → Nat) (j lv : Nat) : Prop :=
  (∀ o, o ≠ 9 → o ≠ 10 → o ≠ 11 → o ≠ 26 → A o = B o) ∧ (∀ i, i < 3 * ncl → A 10 i = B 10 i) ∧ (∀ i, i < j → A 10 ((ncl + i) * 3) = nI (lf i) ∧ A 10 ((ncl + i) * 3 + 1) = -1 ∧ A 10 ((ncl + i) * 3 + 2) = -1) ∧ A 9 2 = nI (ncl + j) ∧ A 9 3 = nI lv ∧ (lv = 1 → A 11 0 = nI ncl) ∧ LitOk A
theorem Ext.rf {B : Nat → Nat → Int32} {dm ncl : Nat} (h : KI B dm ncl) (h9 : B 9 3 = 0) (lf : Nat → Nat) : Ext B B ncl lf 0 0 :=
  ⟨fun _ _ _ _ _ => rfl, fun _ _ => rfl, fun i hi => by omega, h.2.2.2.2.1, h9, fun z => absurd z (by decide), h.2.1⟩
theorem Ext.lf {B A : Nat → Nat → Int32} {ncl lv : Nat} {lf : Nat → Nat} (h : Ext B A ncl lf 0 lv) (lf2 : Nat → Nat) : Ext B A ncl lf2 0 lv :=
  ⟨h.1, h.2.1, fun i hi => by omega, h.2.2.2⟩
theorem Ext.ki {B A : Nat → Nat → Int32} {dm ncl j lv : Nat} {lf : Nat → Nat} (hB : KI B dm ncl) (h : Ext B A ncl lf j lv) (h8 : ncl + j ≤ 8) : KI A dm (ncl + j) := by
  obtain ⟨h1, h2, h3, h4, h5, h6⟩ := hB
  obtain ⟨g1, g2, g3, g4, g5, g6, g7⟩ := h
  refine ⟨FOk_c (g1 2 (by decide) (by decide) (by decide) (by decide)) (g1 7 (by decide) (by decide) (by decide) (by decide)) (g1 8 (by decide) (by decide) (by decide) (by decide)) h1, g7, ?_, h4, g4, h8⟩
  rw [g1 1 (by decide) (by decide) (by decide) (by decide)]
  exact h3
theorem Ext.ci {B A : Nat → Nat → Int32} {ncl j lv cnt : Nat} {lf : Nat → Nat} (hB : CacheI B cnt) (h : Ext B A ncl lf j lv) : CacheI A cnt :=
  CacheI_c (fun o q1 q2 => h.1 o (by omega) (by omega) (by omega) (by omega)) (by rw [h.1 12 (by decide) (by decide) (by decide) (by decide)]) (fun o q1 q2 => h.1 o (by omega) (by omega) (by omega) (by omega)) hB
theorem Ext.std {B A : Nat → Nat → Int32} {dm ncl j lv cnt : Nat} {lf : Nat → Nat} (hB : Std B dm ncl cnt) (h : Ext B A ncl lf j lv) (h8 : ncl + j ≤ 8) : Std A dm (ncl + j) cnt :=
  ⟨h.ki hB.1 h8, h.ci hB.2.1, by rw [h.1 0 (by decide) (by decide) (by decide) (by decide)]; exact hB.2.2⟩
theorem lit_n : ∀ m, m < 10 → (nI m).toNatClampNeg = m ∧ ¬ nI m = -1 := by decide +kernel
theorem ClS_1 {A : Nat → Nat → Int32} {s st m : Nat} (hm : m < 10) (h0 : A 10 st = nI m) (h1 : A 10 (st + 1) = -1) (h2 : A 10 (st + 2) = -1) : ClS A s st ↔ HL s m := by
  obtain ⟨e1, e2⟩ := lit_n m hm
  constructor
  · rintro ⟨i, g1, g2, g3, g4⟩
    rcases (show i = st ∨ i = st + 1 ∨ i = st + 2 by omega) with rfl | rfl | rfl
    · unfold lit at g4
      rw [h0, e1] at g4
      exact g4
    · exact absurd h1 g3
    · exact absurd h2 g3
  · intro h
    refine ⟨st, Nat.le_refl _, by omega, by rw [h0]; exact e2, ?_⟩
    unfold lit
    rw [h0, e1]
    exact h
theorem ClS_e {A B : Nat → Nat → Int32} {s st : Nat} (h : ∀ i, st ≤ i → i < st + 3 → A 10 i = B 10 i) : ClS A s st ↔ ClS B s st := by
  unfold ClS LitH lit
  constructor
  · rintro ⟨i, g1, g2, g3⟩
    rw [h i g1 g2] at g3
    exact ⟨i, g1, g2, g3⟩
  · rintro ⟨i, g1, g2, g3⟩
    rw [← h i g1 g2] at g3
    exact ⟨i, g1, g2, g3⟩
theorem Ext.wd {B A : Nat → Nat → Int32} {dm ncl j lv : Nat} {lf : Nat → Nat} (h : Ext B A ncl lf j lv) (hl : ∀ i, i < j → lf i < 10) (s : Nat) : Wd A dm (ncl + j) s ↔ (Wd B dm ncl s ∧ ∀ i, i < j → HL s (lf i)) := by
  have e23 := h.1 23 (by decide) (by decide) (by decide) (by decide)
  have a1 : ∀ n, n < ncl → (ClS A s (n * 3) ↔ ClS B s (n * 3)) := fun n hn => ClS_e fun i q1 q2 => h.2.1 i (by omega)
  have a2 : ∀ i, i < j → (ClS A s ((ncl + i) * 3) ↔ HL s (lf i)) := fun i hi => by
    obtain ⟨z1, z2, z3⟩ := h.2.2.1 i hi
    exact ClS_1 (hl i hi) z1 z2 z3
  unfold Wd
  rw [e23]
  constructor
  · rintro ⟨h1, h2, h3⟩
    refine ⟨⟨h1, h2, fun n hn => (a1 n hn).mp (h3 n (by omega))⟩, fun i hi => (a2 i hi).mp (h3 (ncl + i) (by omega))⟩
  · rintro ⟨⟨h1, h2, h3⟩, h4⟩
    refine ⟨h1, h2, fun n hn => ?_⟩
    by_cases e : n < ncl
    · exact (a1 n e).mpr (h3 n e)
    · have := (a2 (n - ncl) (by omega)).mpr (h4 (n - ncl) (by omega))
      rw [show ncl + (n - ncl) = n by omega] at this
      exact this
theorem nI_s1 (k : Nat) : nI (k + 1) - 1 = nI k := by
  rw [← nI_1]
  grind
theorem Ext.push {B A : Nat → Nat → Int32} {ncl : Nat} {lf : Nat → Nat} (h : Ext B A ncl lf 0 0) : Ext B (u2 (u2 A 11 0 (A 9 2)) 9 3 (A 9 3 + 1)) ncl lf 0 1 := by
  obtain ⟨g1, g2, g3, g4, g5, g6, g7⟩ := h
  have e10 : (u2 (u2 A 11 0 (A 9 2)) 9 3 (A 9 3 + 1)) 10 = A 10 := by rw [u2_row (by decide), u2_row (by decide)]
  refine ⟨fun o q1 q2 q3 q4 => ?_, fun i hi => by rw [e10]; exact g2 i hi, fun i hi => by omega, ?_, ?_, fun _ => ?_, ?_⟩
  · rw [u2_row q1, u2_row q3]; exact g1 o q1 q2 q3 q4
  · rw [u2_k (by decide), u2_o (by decide)]; exact g4
  · rw [u2_s, g5]; exact nI_1 0
  · rw [u2_o (by decide), u2_s]; exact g4
  · simpa only [LitOk, lit, e10] using g7
theorem Ext.add {B A : Nat → Nat → Int32} {ncl j lv : Nat} {lf : Nat → Nat} (h : Ext B A ncl lf j lv) (h8 : ncl + j < 8) (hm : lf j < 10) : Ext B (u2 (u2 (u2 (u2 A 10 ((ncl + j) * 3) (nI (lf j))) 10 ((ncl + j) * 3 + 1) (-1)) 10 ((ncl + j) * 3 + 2) (-1)) 9 2 (A 9 2 + 1)) ncl lf (j + 1) lv := by
  obtain ⟨g1, g2, g3, g4, g5, g6, g7⟩ := h
  have hr : ∀ o, o ≠ 9 → o ≠ 10 → (u2 (u2 (u2 (u2 A 10 ((ncl + j) * 3) (nI (lf j))) 10 ((ncl + j) * 3 + 1) (-1)) 10 ((ncl + j) * 3 + 2) (-1)) 9 2 (A 9 2 + 1)) o = A o := fun o q1 q2 => by
    rw [u2_row q1, u2_row q2, u2_row q2, u2_row q2]
  have ho : ∀ i, i < (ncl + j) * 3 ∨ (ncl + j) * 3 + 2 < i → (u2 (u2 (u2 (u2 A 10 ((ncl + j) * 3) (nI (lf j))) 10 ((ncl + j) * 3 + 1) (-1)) 10 ((ncl + j) * 3 + 2) (-1)) 9 2 (A 9 2 + 1)) 10 i = A 10 i := fun i hi => by
    rw [u2_o (by decide), u2_k (by omega), u2_k (by omega), u2_k (by omega)]
  have n0 : (u2 (u2 (u2 (u2 A 10 ((ncl + j) * 3) (nI (lf j))) 10 ((ncl + j) * 3 + 1) (-1)) 10 ((ncl + j) * 3 + 2) (-1)) 9 2 (A 9 2 + 1)) 10 ((ncl + j) * 3) = nI (lf j) := by
    rw [u2_o (by decide), u2_k (by omega), u2_k (by omega), u2_s]
  have n1 : (u2 (u2 (u2 (u2 A 10 ((ncl + j) * 3) (nI (lf j))) 10 ((ncl + j) * 3 + 1) (-1)) 10 ((ncl + j) * 3 + 2) (-1)) 9 2 (A 9 2 + 1)) 10 ((ncl + j) * 3 + 1) = -1 := by
    rw [u2_o (by decide), u2_k (by omega), u2_s]
  have n2 : (u2 (u2 (u2 (u2 A 10 ((ncl + j) * 3) (nI (lf j))) 10 ((ncl + j) * 3 + 1) (-1)) 10 ((ncl + j) * 3 + 2) (-1)) 9 2 (A 9 2 + 1)) 10 ((ncl + j) * 3 + 2) = -1 := by
    rw [u2_o (by decide), u2_s]
  refine ⟨fun o q1 q2 q3 q4 => by rw [hr o q1 q2]; exact g1 o q1 q2 q3 q4, fun i hi => by rw [ho i (by omega)]; exact g2 i hi, fun i hi => ?_, ?_, ?_, fun z => by rw [hr 11 (by decide) (by decide)]; exact g6 z, fun i hi => ?_⟩
  · by_cases e : i = j
    · subst e
      exact ⟨n0, n1, n2⟩
    · obtain ⟨z1, z2, z3⟩ := g3 i (by omega)
      rw [ho _ (by omega), ho _ (by omega), ho _ (by omega)]
      exact ⟨z1, z2, z3⟩
  · rw [u2_s, g4]; exact nI_1 (ncl + j)
  · rw [u2_k (by decide), u2_o (by decide), u2_o (by decide), u2_o (by decide)]; exact g5
  · unfold lit
    by_cases e0 : i = (ncl + j) * 3
    · subst e0
      rw [n0, (lit_n _ hm).1]
      exact Or.inr ⟨hm, rfl⟩
    · by_cases e1 : i = (ncl + j) * 3 + 1
      · subst e1
        exact Or.inl n1
      · by_cases e2 : i = (ncl + j) * 3 + 2
        · subst e2
          exact Or.inl n2
        · rw [ho i (by omega)]
          exact g7 i hi
theorem Ext.pop {B A : Nat → Nat → Int32} {ncl j : Nat} {lf : Nat → Nat} (h : Ext B A ncl lf j 1) (lf2 : Nat → Nat) : Ext B (u2 (u2 A 9 3 ((A 9 3) - 1)) 9 2 (A 11 (1 - 1))) ncl lf2 0 0 := by
  obtain ⟨g1, g2, g3, g4, g5, g6, g7⟩ := h
  have e10 : (u2 (u2 A 9 3 ((A 9 3) - 1)) 9 2 (A 11 (1 - 1))) 10 = A 10 := by rw [u2_row (by decide), u2_row (by decide)]
  refine ⟨fun o q1 q2 q3 q4 => ?_, fun i hi => by rw [e10]; exact g2 i hi, fun i hi => by omega, ?_, ?_, fun z => absurd z (by decide), ?_⟩
  · rw [u2_row q1, u2_row q1]; exact g1 o q1 q2 q3 q4
  · rw [u2_s]; exact g6 rfl
  · rw [u2_k (by decide), u2_s, g5]; exact nI_s1 0
  · simpa only [LitOk, lit, e10] using g7
theorem Ext.k26 {B A A3 : Nat → Nat → Int32} {ncl j lv : Nat} {lf : Nat → Nat} (h : Ext B A ncl lf j lv) (hk : ∀ o k, o ≠ 26 → A3 o k = A o k) : Ext B A3 ncl lf j lv := by
  have e : ∀ o, o ≠ 26 → A3 o = A o := fun o q => funext fun k => hk o k q
  obtain ⟨g1, g2, g3, g4, g5, g6, g7⟩ := h
  have e10 := e 10 (by decide)
  have e9 := e 9 (by decide)
  refine ⟨fun o q1 q2 q3 q4 => (e o q4).trans (g1 o q1 q2 q3 q4), by rw [e10]; exact g2, by rw [e10]; exact g3, by rw [e9]; exact g4, by rw [e9]; exact g5, by rw [e 11 (by decide)]; exact g6, ?_⟩
  simpa only [LitOk, lit, e10] using g7
