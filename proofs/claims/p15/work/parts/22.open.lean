abbrev Rw : Type := Int32 × Int32 × Int32 × Int32
noncomputable def fold (P : Nat → Prop) (f : Nat → Int32 → Int32) (z : Int32) : Nat → Int32
  | 0 => z
  | k + 1 => @ite Int32 (P k) (Classical.propDecidable _) (f k (fold P f z k)) (fold P f z k)
theorem fold_t {P : Nat → Prop} {f : Nat → Int32 → Int32} {z : Int32} {k : Nat} (h : P k) : fold P f z (k + 1) = f k (fold P f z k) := if_pos h
theorem fold_f {P : Nat → Prop} {f : Nat → Int32 → Int32} {z : Int32} {k : Nat} (h : ¬ P k) : fold P f z (k + 1) = fold P f z k := if_neg h
/-! ===== what it is for a cell to be open, on both sides ===== -/
theorem tb_nI : ∀ s, s < 32 → ∀ i, i < 32 → tb (nI s) i = s.testBit i := by decide +kernel
theorem tb_7 : ∀ i, i < 32 → tb 7 i = decide (i < 3) := by decide +kernel
def alb (x y z : Int32) (t : Nat) : Prop := match t with
  | 0 => x = y
  | 1 => x = z
  | _ => y = z
/-- folds -/
theorem fold_any (P : Nat → Prop) (cnt : Nat) : ¬ fold P (fun _ _ => 1) 0 cnt = 0 ↔ ∃ n, n < cnt ∧ P n := by
  induction cnt with
  | zero =>
    constructor
    · intro h; exact absurd rfl h
    · rintro ⟨n, h, _⟩; omega
  | succ k ih =>
    rcases Classical.em (P k) with q | q
    · rw [fold_t q]
      exact ⟨fun _ => ⟨k, by omega, q⟩, fun _ => by decide⟩
    · rw [fold_f q, ih]
      constructor
      · rintro ⟨n, h1, h2⟩; exact ⟨n, by omega, h2⟩
      · rintro ⟨n, h1, h2⟩
        by_cases e : n = k
        · subst e; exact absurd h2 q
        · exact ⟨n, by omega, h2⟩
theorem fold_and (P : Nat → Prop) (g : Nat → Int32) (z : Int32) (i : Nat) (cnt : Nat) : tb (fold P (fun n v => v &&& g n) z cnt) i = true ↔ (tb z i = true ∧ ∀ n, n < cnt → P n → tb (g n) i = true) := by
  induction cnt with
  | zero => exact ⟨fun h => ⟨h, fun n hn => by omega⟩, fun h => h.1⟩
  | succ k ih =>
    rcases Classical.em (P k) with q | q
    · rw [fold_t q, tb_and, Bool.and_eq_true, ih]
      constructor
      · rintro ⟨⟨h1, h2⟩, h3⟩
        refine ⟨h1, fun n hn hp => ?_⟩
        by_cases e : n = k
        · subst e; exact h3
        · exact h2 n (by omega) hp
      · rintro ⟨h1, h2⟩
        exact ⟨⟨h1, fun n hn => h2 n (by omega)⟩, h2 k (by omega) q⟩
    · rw [fold_f q, ih]
      constructor
      · rintro ⟨h1, h2⟩
        refine ⟨h1, fun n hn hp => ?_⟩
        by_cases e : n = k
        · subst e; exact absurd hp q
        · exact h2 n (by omega) hp
      · rintro ⟨h1, h2⟩
        exact ⟨h1, fun n hn => h2 n (by omega)⟩
theorem fold_z (P : Nat → Prop) (g : Nat → Int32) (z : Int32) (cnt : Nat) : fold P (fun n v => v &&& g n) z cnt = 0 ↔ ∀ i, i < 32 → tb z i = true → ∃ n, n < cnt ∧ P n ∧ tb (g n) i = false := by
  rw [z_iff]
  constructor
  · intro h i hi hz
    refine Classical.byContradiction fun q => ?_
    have : tb (fold P (fun n v => v &&& g n) z cnt) i = true := (fold_and P g z i cnt).mpr ⟨hz, fun n hn hp => by
      cases hg : tb (g n) i
      · exact absurd ⟨n, hn, hp, hg⟩ q
      · rfl⟩
    rw [h i hi] at this
    cases this
  · intro h i hi
    cases hf : tb (fold P (fun n v => v &&& g n) z cnt) i
    · rfl
    · obtain ⟨h1, h2⟩ := (fold_and P g z i cnt).mp hf
      obtain ⟨n, h3, h4, h5⟩ := h i hi h1
      rw [h2 n h3 h4] at h5
      cases h5
theorem anyf_iff (A : Nat → Nat → Int32) (nd : Int32) (cnt : Nat) : ¬ anyf A nd cnt = 0 ↔ ∃ n, n < cnt ∧ fit A nd n := by
  induction cnt with
  | zero =>
    constructor
    · intro h; exact absurd rfl h
    · rintro ⟨n, h, _⟩; omega
  | succ k ih =>
    rcases Classical.em (fit A nd k) with q | q
    · rw [anyf_t q]
      exact ⟨fun _ => ⟨k, by omega, q⟩, fun _ => by decide⟩
    · rw [anyf_f q, ih]
      constructor
      · rintro ⟨n, h1, h2⟩; exact ⟨n, by omega, h2⟩
      · rintro ⟨n, h1, h2⟩
        by_cases e : n = k
        · subst e; exact absurd h2 q
        · exact ⟨n, by omega, h2⟩
theorem mis_fold (A : Nat → Nat → Int32) (nd sg : Int32) (cnt : Nat) : mis A nd sg cnt = fold (fit A nd) (fun n v => v &&& (A 21 n ^^^ (-1))) sg cnt := by
  induction cnt with
  | zero => rfl
  | succ k ih =>
    rcases Classical.em (fit A nd k) with q | q
    · rw [mis_t q, fold_t q, ih]
    · rw [mis_f q, fold_f q, ih]
/-- how a corner lies, in words of the signs of its planes -/
def FitS (A : Nat → Nat → Int32) (s p : Nat) (v : Nat → Int32) : Prop := (∀ k, k < 5 → A 2 k = 1 → (s.testBit k = true → v k ≤ 0) ∧ (¬ s.testBit k = true → 0 ≤ v k)) ∧ (∀ k, k < 5 → A 2 k = 2 → s.testBit k = true → v k = 0) ∧ ∀ t, t < 3 → PEq p t → v (5 + t) = 0
/-- that a cell is open, by the corners of the kind P -/
def SidS (A : Nat → Nat → Int32) (s p : Nat) (v : Nat → Nat → Int32) (P : Nat → Prop) (cnt : Nat) : Prop := (∀ k, k < 5 → A 2 k = 1 → ¬ s.testBit k = true → ∃ n, n < cnt ∧ P n ∧ 0 < v n k) ∧ (∀ k, k < 5 → A 2 k = 2 → ¬ s.testBit k = true → ∃ n, n < cnt ∧ P n ∧ ¬ v n k = 0) ∧ ∀ t, t < 3 → ¬ PEq p t → ∃ n, n < cnt ∧ P n ∧ ¬ v n (5 + t) = 0
def vC (A : Nat → Nat → Int32) (n t : Nat) : Int32 := fov A (A 17 n) (A 18 n) (A 19 n) (A 20 n) t
def vQ (A : Nat → Nat → Int32) (n t : Nat) : Int32 := fov A (A 33 (4 * n)) (A 33 (4 * n + 1)) (A 33 (4 * n + 2)) (A 33 (4 * n + 3)) t
def Sd (A : Nat → Nat → Int32) (n : Nat) : Prop := A 21 n = fsd A (A 17 n) (A 18 n) (A 19 n) (A 20 n) 8
theorem Sd.bits {A : Nat → Nat → Int32} {n : Nat} (h : Sd A n) {t : Nat} (ht : t < 8) : (tb (A 21 n) t = true ↔ vC A n t ≤ 0) ∧ (tb (A 21 n) (8 + t) = true ↔ 0 ≤ vC A n t) ∧ (tb (A 21 n) (16 + t) = true ↔ 0 < vC A n t) ∧ (tb (A 21 n) (24 + t) = true ↔ ¬ vC A n t = 0) := by
  rw [h]
  exact fsd_bits A _ _ _ _ ht
theorem le0_iff {x : Int32} : (x ≤ 0 ∧ 0 ≤ x) ↔ x = 0 := ⟨fun h => Int32.le_antisymm h.1 h.2, fun h => by rw [h]; exact ⟨Int32.le_refl _, Int32.le_refl _⟩⟩
theorem tb_ndc (A : Nat → Nat → Int32) (s p : Nat) {i : Nat} (hi : i < 32) : tb (ndc A s p) i = true ↔ ((∃ k, k < 5 ∧ ((A 2 k = 1 ∧ s.testBit k = true ∧ i = k) ∨ (A 2 k = 1 ∧ ¬ s.testBit k = true ∧ i = 8 + k) ∨ (A 2 k = 2 ∧ s.testBit k = true ∧ (i = k ∨ i = 8 + k)))) ∨ ∃ t, t < 3 ∧ PEq p t ∧ (i = 5 + t ∨ i = 13 + t)) := by
  unfold ndc
  rw [tb_or, Bool.or_eq_true, tb_snd A s 5 (by omega) i hi, tb_pnd p 3 (by omega) i hi]
theorem tb_sgc (A : Nat → Nat → Int32) (s p : Nat) {i : Nat} (hi : i < 32) : tb (sgc A s p) i = true ↔ ((∃ k, k < 5 ∧ ¬ s.testBit k = true ∧ ((A 2 k = 1 ∧ i = 16 + k) ∨ (A 2 k = 2 ∧ i = 24 + k))) ∨ ∃ t, t < 3 ∧ ¬ PEq p t ∧ i = 29 + t) := by
  unfold sgc
  rw [tb_or, Bool.or_eq_true, tb_ssg A s 5 (by omega) i hi, tb_psg p 3 (by omega) i hi]
theorem fit_iff {A : Nat → Nat → Int32} {n : Nat} (h : Sd A n) (s p : Nat) : fit A (ndc A s p) n ↔ FitS A s p (vC A n) := by
  unfold fit
  rw [sub_iff]
  constructor
  · intro hh
    refine ⟨fun k hk h1 => ⟨fun hb => ?_, fun hb => ?_⟩, fun k hk h2 hb => ?_, fun t ht hq => ?_⟩
    · exact (h.bits (by omega)).1.mp (hh k (by omega) ((tb_ndc A s p (by omega)).mpr (Or.inl ⟨k, hk, Or.inl ⟨h1, hb, rfl⟩⟩)))
    · exact (h.bits (by omega)).2.1.mp (hh (8 + k) (by omega) ((tb_ndc A s p (by omega)).mpr (Or.inl ⟨k, hk, Or.inr (Or.inl ⟨h1, hb, rfl⟩)⟩)))
    · exact le0_iff.mp ⟨(h.bits (by omega)).1.mp (hh k (by omega) ((tb_ndc A s p (by omega)).mpr (Or.inl ⟨k, hk, Or.inr (Or.inr ⟨h2, hb, Or.inl rfl⟩)⟩))), (h.bits (by omega)).2.1.mp (hh (8 + k) (by omega) ((tb_ndc A s p (by omega)).mpr (Or.inl ⟨k, hk, Or.inr (Or.inr ⟨h2, hb, Or.inr rfl⟩)⟩)))⟩
    · refine le0_iff.mp ⟨(h.bits (by omega)).1.mp (hh (5 + t) (by omega) ((tb_ndc A s p (by omega)).mpr (Or.inr ⟨t, ht, hq, Or.inl rfl⟩))), (h.bits (by omega)).2.1.mp (hh (8 + (5 + t)) (by omega) ((tb_ndc A s p (by omega)).mpr (Or.inr ⟨t, ht, hq, Or.inr (by omega)⟩)))⟩
  · rintro ⟨h1, h2, h3⟩ i hi hb
    rcases (tb_ndc A s p hi).mp hb with ⟨k, hk, ⟨q1, q2, rfl⟩ | ⟨q1, q2, rfl⟩ | ⟨q1, q2, rfl | rfl⟩⟩ | ⟨t, ht, q1, rfl | rfl⟩
    · exact (h.bits (by omega)).1.mpr ((h1 _ hk q1).1 q2)
    · exact (h.bits (by omega)).2.1.mpr ((h1 _ hk q1).2 q2)
    · exact (h.bits (by omega)).1.mpr (le0_iff.mpr (h2 _ hk q1 q2)).1
    · exact (h.bits (by omega)).2.1.mpr (le0_iff.mpr (h2 _ hk q1 q2)).2
    · exact (h.bits (by omega)).1.mpr (le0_iff.mpr (h3 _ ht q1)).1
    · rw [show 13 + t = 8 + (5 + t) by omega]
      exact (h.bits (by omega)).2.1.mpr (le0_iff.mpr (h3 _ ht q1)).2
theorem sg_iff {A : Nat → Nat → Int32} {cnt : Nat} (h : ∀ n, n < cnt → Sd A n) (s p : Nat) (P : Nat → Prop) : (∀ i, i < 32 → tb (sgc A s p) i = true → ∃ n, n < cnt ∧ P n ∧ tb (A 21 n) i = true) ↔ SidS A s p (vC A) P cnt := by
  constructor
  · intro hh
    refine ⟨fun k hk h1 hb => ?_, fun k hk h2 hb => ?_, fun t ht hq => ?_⟩
    · obtain ⟨n, g1, g2, g3⟩ := hh (16 + k) (by omega) ((tb_sgc A s p (by omega)).mpr (Or.inl ⟨k, hk, hb, Or.inl ⟨h1, rfl⟩⟩))
      exact ⟨n, g1, g2, ((h n g1).bits (by omega)).2.2.1.mp g3⟩
    · obtain ⟨n, g1, g2, g3⟩ := hh (24 + k) (by omega) ((tb_sgc A s p (by omega)).mpr (Or.inl ⟨k, hk, hb, Or.inr ⟨h2, rfl⟩⟩))
      exact ⟨n, g1, g2, ((h n g1).bits (by omega)).2.2.2.mp g3⟩
    · obtain ⟨n, g1, g2, g3⟩ := hh (29 + t) (by omega) ((tb_sgc A s p (by omega)).mpr (Or.inr ⟨t, ht, hq, rfl⟩))
      rw [show 29 + t = 24 + (5 + t) by omega] at g3
      exact ⟨n, g1, g2, ((h n g1).bits (by omega)).2.2.2.mp g3⟩
  · rintro ⟨h1, h2, h3⟩ i hi hb
    rcases (tb_sgc A s p hi).mp hb with ⟨k, hk, q0, ⟨q1, rfl⟩ | ⟨q1, rfl⟩⟩ | ⟨t, ht, q1, rfl⟩
    · obtain ⟨n, g1, g2, g3⟩ := h1 k hk q1 q0
      exact ⟨n, g1, g2, ((h n g1).bits (by omega)).2.2.1.mpr g3⟩
    · obtain ⟨n, g1, g2, g3⟩ := h2 k hk q1 q0
      exact ⟨n, g1, g2, ((h n g1).bits (by omega)).2.2.2.mpr g3⟩
    · obtain ⟨n, g1, g2, g3⟩ := h3 t ht q1
      rw [show 29 + t = 24 + (5 + t) by omega]
      exact ⟨n, g1, g2, ((h n g1).bits (by omega)).2.2.2.mpr g3⟩
theorem SidS_P {A : Nat → Nat → Int32} {s p : Nat} {v : Nat → Nat → Int32} {P Q : Nat → Prop} {cnt : Nat} (h : ∀ n, n < cnt → (P n ↔ Q n)) : SidS A s p v P cnt ↔ SidS A s p v Q cnt := by
  have e : ∀ R : Nat → Prop, (∃ n, n < cnt ∧ P n ∧ R n) ↔ ∃ n, n < cnt ∧ Q n ∧ R n := fun R => ⟨fun ⟨n, h1, h2, h3⟩ => ⟨n, h1, (h n h1).mp h2, h3⟩, fun ⟨n, h1, h2, h3⟩ => ⟨n, h1, (h n h1).mpr h2, h3⟩⟩
  unfold SidS
  simp only [e]
theorem HavP_iff {A : Nat → Nat → Int32} {cnt : Nat} (h : ∀ n, n < cnt → Sd A n) (s p : Nat) : HavP A (ndc A s p) (sgc A s p) cnt ↔ ((∃ n, n < cnt ∧ FitS A s p (vC A n)) ∧ SidS A s p (vC A) (fun n => FitS A s p (vC A n)) cnt) := by
  unfold HavP
  rw [anyf_iff, mis_fold, fold_z]
  have e1 : (∃ n, n < cnt ∧ fit A (ndc A s p) n) ↔ ∃ n, n < cnt ∧ FitS A s p (vC A n) := ⟨fun ⟨n, h1, h2⟩ => ⟨n, h1, (fit_iff (h n h1) s p).mp h2⟩, fun ⟨n, h1, h2⟩ => ⟨n, h1, (fit_iff (h n h1) s p).mpr h2⟩⟩
  rw [e1, ← SidS_P (fun n hn => fit_iff (h n hn) s p), ← sg_iff h s p (fit A (ndc A s p))]
  refine and_congr Iff.rfl ⟨fun hh i hi hb => ?_, fun hh i hi hb => ?_⟩
  · obtain ⟨n, g1, g2, g3⟩ := hh i hi hb
    rw [tb_not _ hi] at g3
    exact ⟨n, g1, g2, by simpa using g3⟩
  · obtain ⟨n, g1, g2, g3⟩ := hh i hi hb
    exact ⟨n, g1, g2, by rw [tb_not _ hi, g3]; rfl⟩

theorem tbf {b : Bool} : b = false ↔ ¬ b = true := by cases b <;> simp
def Cp2 (A : Nat → Nat → Int32) : Prop := ∀ k, k < 5 → A 2 k = 3 → A 29 (4 * k) = A 7 k ∧ A 29 (4 * k + 1) = A 8 k
