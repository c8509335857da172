/-! ===== bits ===== -/
def tb (x : Int32) (i : Nat) : Bool := x.toBitVec.getLsbD i
theorem tb_ext {x y : Int32} (h : ∀ i, i < 32 → tb x i = tb y i) : x = y := by
  apply Int32.toBitVec_inj.mp
  apply BitVec.eq_of_getLsbD_eq
  exact fun i hi => h i hi
theorem tb_and (x y : Int32) (i : Nat) : tb (x &&& y) i = (tb x i && tb y i) := by simp [tb]
theorem tb_or (x y : Int32) (i : Nat) : tb (x ||| y) i = (tb x i || tb y i) := by simp [tb]
theorem tb_0 (i : Nat) : tb 0 i = false := by simp [tb]
theorem tb_m1 : ∀ i, i < 32 → tb (-1) i = true := by decide +kernel
theorem tb_not (x : Int32) {i : Nat} (hi : i < 32) : tb (x ^^^ (-1)) i = !tb x i := by
  have h := tb_m1 i hi
  unfold tb at h ⊢
  simp only [Int32.toBitVec_xor, BitVec.getLsbD_xor, h]
  simp
theorem tb_pow : ∀ k, k < 32 → ∀ i, i < 32 → tb (1 <<< (nI k &&& 31)) i = decide (i = k) := by decide +kernel
theorem tb_sh {c k : Nat} (x : Int32) (hx : x = nI c) (h : c + k < 32) {i : Nat} (hi : i < 32) : tb (1 <<< ((x + nI k) &&& 31)) i = decide (i = c + k) := by
  have e : x + nI k = nI (c + k) := by
    rw [hx]
    show Int32.ofNat c + Int32.ofNat k = Int32.ofNat (c + k)
    rw [Int32.ofNat_add]
  rw [e]
  exact tb_pow _ h i hi
theorem z_iff {x : Int32} : x = 0 ↔ ∀ i, i < 32 → tb x i = false := by
  constructor
  · rintro rfl i _
    exact tb_0 i
  · exact fun h => tb_ext fun i hi => by rw [h i hi, tb_0]
theorem sub_iff {x y : Int32} : x &&& y = y ↔ ∀ i, i < 32 → tb y i = true → tb x i = true := by
  constructor
  · intro h i hi hy
    have := congrArg (fun z => tb z i) h
    simp only [tb_and, hy] at this
    simpa using this
  · intro h
    apply tb_ext
    intro i hi
    rw [tb_and]
    have := h i hi
    cases hy : tb y i
    · simp
    · simp [this hy]
/-- where a number is on a row of a table -/
theorem nI_of_nonneg {x : Int32} (h : 0 ≤ x) : ∃ k, x = nI k ∧ k < 2 ^ 31 := by
  refine ⟨x.toNatClampNeg, ?_, ?_⟩
  · have h2 : (0 : Int) ≤ x.toInt := by simpa using Int32.le_iff_toInt_le.mp h
    apply Int32.toInt_inj.mp
    have h3 : x.toInt < 2 ^ 31 := Int32.toInt_lt x
    show x.toInt = (Int32.ofNat x.toNatClampNeg).toInt
    rw [Int32.toInt_ofNat_of_lt]
    · unfold Int32.toNatClampNeg
      omega
    · unfold Int32.toNatClampNeg
      omega
  · have h3 : x.toInt < 2 ^ 31 := Int32.toInt_lt x
    unfold Int32.toNatClampNeg
    omega
theorem tb_snd (A : Nat → Nat → Int32) (s : Nat) : ∀ K, K ≤ 5 → ∀ i, i < 32 → (tb (snd A s K) i = true ↔ ∃ k, k < K ∧ ((A 2 k = 1 ∧ s.testBit k = true ∧ i = k) ∨ (A 2 k = 1 ∧ ¬ s.testBit k = true ∧ i = 8 + k) ∨ (A 2 k = 2 ∧ s.testBit k = true ∧ (i = k ∨ i = 8 + k)))) := by
  intro K
  induction K with
  | zero =>
    intro _ i _
    constructor
    · intro h
      exact absurd h (by rw [show snd A s 0 = 0 from rfl, tb_0]; simp)
    · rintro ⟨k, hk, _⟩
      omega
  | succ K ih =>
    intro hK i hi
    have ih := ih (by omega) i hi
    have st : ∀ P : Prop, (tb (snd A s (K + 1)) i = true ↔ (tb (snd A s K) i = true ∨ P)) → (P ↔ ((A 2 K = 1 ∧ s.testBit K = true ∧ i = K) ∨ (A 2 K = 1 ∧ ¬ s.testBit K = true ∧ i = 8 + K) ∨ (A 2 K = 2 ∧ s.testBit K = true ∧ (i = K ∨ i = 8 + K)))) → (tb (snd A s (K + 1)) i = true ↔ ∃ k, k < K + 1 ∧ ((A 2 k = 1 ∧ s.testBit k = true ∧ i = k) ∨ (A 2 k = 1 ∧ ¬ s.testBit k = true ∧ i = 8 + k) ∨ (A 2 k = 2 ∧ s.testBit k = true ∧ (i = k ∨ i = 8 + k)))) := by
      intro P h1 h2
      rw [h1, h2, ih]
      constructor
      · rintro (⟨k, h3, h4⟩ | h4)
        · exact ⟨k, by omega, h4⟩
        · exact ⟨K, by omega, h4⟩
      · rintro ⟨k, h3, h4⟩
        by_cases e : k = K
        · subst e; exact Or.inr h4
        · exact Or.inl ⟨k, by omega, h4⟩
    by_cases c1 : A 2 K = 1
    · have c2 : ¬ A 2 K = 2 := by rw [c1]; decide
      by_cases c3 : s.testBit K = true
      · refine st (i = K) ?_ (by simp [c1, c3])
        simp only [snd, c1, c3, if_true]
        rw [tb_or, tb_sh (c := 0) 0 rfl (by omega) hi]
        simp
      · refine st (i = 8 + K) ?_ (by simp [c1, c3])
        simp only [snd, c1, c3, if_true]
        rw [tb_or, tb_sh (c := 8) _ (by rfl) (by omega) hi]
        simp
    · by_cases c2 : A 2 K = 2 ∧ s.testBit K = true
      · refine st (i = K ∨ i = 8 + K) ?_ (by simp [c2])
        simp only [snd, if_neg c1, if_pos c2]
        rw [tb_or, tb_or, tb_sh (c := 0) 0 rfl (by omega) hi, tb_sh (c := 8) 8 rfl (by omega) hi]
        simp
      · refine st False ?_ ?_
        · simp only [snd, if_neg c1, if_neg c2]
          simp
        · constructor
          · exact fun z => z.elim
          · rintro (h | h | h)
            · exact c1 h.1
            · exact c1 h.1
            · exact c2 ⟨h.1, h.2.1⟩
theorem tb_ssg (A : Nat → Nat → Int32) (s : Nat) : ∀ K, K ≤ 5 → ∀ i, i < 32 → (tb (ssg A s K) i = true ↔ ∃ k, k < K ∧ ¬ s.testBit k = true ∧ ((A 2 k = 1 ∧ i = 16 + k) ∨ (A 2 k = 2 ∧ i = 24 + k))) := by
  intro K
  induction K with
  | zero =>
    intro _ i _
    constructor
    · intro h
      exact absurd h (by rw [show ssg A s 0 = 0 from rfl, tb_0]; simp)
    · rintro ⟨k, hk, _⟩
      omega
  | succ K ih =>
    intro hK i hi
    have ih := ih (by omega) i hi
    have st : ∀ P : Prop, (tb (ssg A s (K + 1)) i = true ↔ (tb (ssg A s K) i = true ∨ P)) → (P ↔ (¬ s.testBit K = true ∧ ((A 2 K = 1 ∧ i = 16 + K) ∨ (A 2 K = 2 ∧ i = 24 + K)))) → (tb (ssg A s (K + 1)) i = true ↔ ∃ k, k < K + 1 ∧ ¬ s.testBit k = true ∧ ((A 2 k = 1 ∧ i = 16 + k) ∨ (A 2 k = 2 ∧ i = 24 + k))) := by
      intro P h1 h2
      rw [h1, h2, ih]
      constructor
      · rintro (⟨k, h3, h4⟩ | h4)
        · exact ⟨k, by omega, h4⟩
        · exact ⟨K, by omega, h4⟩
      · rintro ⟨k, h3, h4⟩
        by_cases e : k = K
        · subst e; exact Or.inr h4
        · exact Or.inl ⟨k, by omega, h4⟩
    by_cases c1 : A 2 K = 1 ∧ ¬ s.testBit K = true
    · refine st (i = 16 + K) ?_ ?_
      · simp only [ssg, if_pos c1]
        rw [tb_or, tb_sh (c := 16) 16 rfl (by omega) hi]
        simp
      · constructor
        · exact fun z => ⟨c1.2, Or.inl ⟨c1.1, z⟩⟩
        · rintro ⟨_, h | h⟩
          · exact h.2
          · exact absurd (c1.1.symm.trans h.1) (by decide)
    · by_cases c2 : A 2 K = 2 ∧ ¬ s.testBit K = true
      · refine st (i = 24 + K) ?_ ?_
        · simp only [ssg, if_neg c1, if_pos c2]
          rw [tb_or, tb_sh (c := 24) 24 rfl (by omega) hi]
          simp
        · constructor
          · exact fun z => ⟨c2.2, Or.inr ⟨c2.1, z⟩⟩
          · rintro ⟨_, h | h⟩
            · exact absurd (c2.1.symm.trans h.1) (by decide)
            · exact h.2
      · refine st False ?_ ?_
        · simp only [ssg, if_neg c1, if_neg c2]
          simp
        · constructor
          · exact fun z => z.elim
          · rintro ⟨h1, h | h⟩
            · exact c1 ⟨h.1, h1⟩
            · exact c2 ⟨h.1, h1⟩
theorem nI5 (t : Nat) : (5 : Int32) + nI t = nI (5 + t) := by
  show Int32.ofNat 5 + Int32.ofNat t = Int32.ofNat (5 + t)
  rw [Int32.ofNat_add]
theorem tb_pnd (p : Nat) : ∀ K, K ≤ 3 → ∀ i, i < 32 → (tb (pnd p K) i = true ↔ ∃ t, t < K ∧ PEq p t ∧ (i = 5 + t ∨ i = 13 + t)) := by
  intro K
  induction K with
  | zero =>
    intro _ i _
    constructor
    · intro h
      exact absurd h (by rw [show pnd p 0 = 0 from rfl, tb_0]; simp)
    · rintro ⟨k, hk, _⟩
      omega
  | succ K ih =>
    intro hK i hi
    have ih := ih (by omega) i hi
    rcases Classical.em (PEq p K) with q | q
    · rw [pnd_t q, tb_or, tb_or, nI5, tb_sh (c := 0) 0 rfl (by omega) hi, tb_sh (c := 8) 8 rfl (by omega) hi]
      simp only [Bool.or_eq_true, decide_eq_true_eq, ih]
      constructor
      · rintro (⟨k, h3, h4⟩ | h4)
        · exact ⟨k, by omega, h4⟩
        · exact ⟨K, by omega, q, by omega⟩
      · rintro ⟨k, h3, h4⟩
        by_cases e : k = K
        · subst e; exact Or.inr (by have h5 := h4.2; clear h4 ih; omega)
        · exact Or.inl ⟨k, by omega, h4⟩
    · rw [pnd_f q, ih]
      constructor
      · rintro ⟨k, h3, h4⟩
        exact ⟨k, by omega, h4⟩
      · rintro ⟨k, h3, h4⟩
        by_cases e : k = K
        · subst e; exact absurd h4.1 q
        · exact ⟨k, by omega, h4⟩
theorem tb_psg (p : Nat) : ∀ K, K ≤ 3 → ∀ i, i < 32 → (tb (psg p K) i = true ↔ ∃ t, t < K ∧ ¬ PEq p t ∧ i = 29 + t) := by
  intro K
  induction K with
  | zero =>
    intro _ i _
    constructor
    · intro h
      exact absurd h (by rw [show psg p 0 = 0 from rfl, tb_0]; simp)
    · rintro ⟨k, hk, _⟩
      omega
  | succ K ih =>
    intro hK i hi
    have ih := ih (by omega) i hi
    rcases Classical.em (PEq p K) with q | q
    · rw [psg_t q, ih]
      constructor
      · rintro ⟨k, h3, h4⟩
        exact ⟨k, by omega, h4⟩
      · rintro ⟨k, h3, h4⟩
        by_cases e : k = K
        · subst e; exact absurd q h4.1
        · exact ⟨k, by omega, h4⟩
    · rw [psg_f q, tb_or, nI5, tb_sh (c := 24) 24 rfl (by omega) hi]
      simp only [Bool.or_eq_true, decide_eq_true_eq, ih]
      constructor
      · rintro (⟨k, h3, h4⟩ | h4)
        · exact ⟨k, by omega, h4⟩
        · exact ⟨K, by omega, q, by omega⟩
      · rintro ⟨k, h3, h4⟩
        by_cases e : k = K
        · subst e; exact Or.inr (by omega)
        · exact Or.inl ⟨k, by omega, h4⟩
theorem tb_fsd (A : Nat → Nat → Int32) (x y z w : Int32) : ∀ K, K ≤ 8 → ∀ i, i < 32 → (tb (fsd A x y z w K) i = true ↔ ∃ t, t < K ∧ ((i = t ∧ fov A x y z w t ≤ 0) ∨ (i = 8 + t ∧ 0 ≤ fov A x y z w t) ∨ (i = 16 + t ∧ 0 < fov A x y z w t) ∨ (i = 24 + t ∧ ¬ fov A x y z w t = 0))) := by
  intro K
  induction K with
  | zero =>
    intro _ i _
    constructor
    · intro h
      exact absurd h (by rw [show fsd A x y z w 0 = 0 from rfl, tb_0]; simp)
    · rintro ⟨k, hk, _⟩
      omega
  | succ K ih =>
    intro hK i hi
    have ih := ih (by omega) i hi
    have st : ∀ P : Prop, (tb (fsd A x y z w (K + 1)) i = true ↔ (tb (fsd A x y z w K) i = true ∨ P)) → (P ↔ ((i = K ∧ fov A x y z w K ≤ 0) ∨ (i = 8 + K ∧ 0 ≤ fov A x y z w K) ∨ (i = 16 + K ∧ 0 < fov A x y z w K) ∨ (i = 24 + K ∧ ¬ fov A x y z w K = 0))) → (tb (fsd A x y z w (K + 1)) i = true ↔ ∃ t, t < K + 1 ∧ ((i = t ∧ fov A x y z w t ≤ 0) ∨ (i = 8 + t ∧ 0 ≤ fov A x y z w t) ∨ (i = 16 + t ∧ 0 < fov A x y z w t) ∨ (i = 24 + t ∧ ¬ fov A x y z w t = 0))) := by
      intro P h1 h2
      rw [h1, h2, ih]
      constructor
      · rintro (⟨k, h3, h4⟩ | h4)
        · exact ⟨k, by omega, h4⟩
        · exact ⟨K, by omega, h4⟩
      · rintro ⟨k, h3, h4⟩
        by_cases e : k = K
        · subst e; exact Or.inr h4
        · exact Or.inl ⟨k, by omega, h4⟩
    generalize hf : fov A x y z w K = f at st
    by_cases c1 : f = 0
    · refine st (i = K ∨ i = 8 + K) ?_ ?_
      · simp only [fsd, hf, if_pos c1]
        rw [tb_or, tb_or, tb_sh (c := 0) 0 rfl (by omega) hi, tb_sh (c := 8) 8 rfl (by omega) hi]
        simp
      · subst c1
        simp
    · by_cases c2 : f < 0
      · have n1 : f ≤ 0 := Int32.le_of_lt c2
        have n2 : ¬ 0 ≤ f := Int32.not_le.mpr c2
        have n3 : ¬ 0 < f := fun q => n2 (Int32.le_of_lt q)
        refine st (i = K ∨ i = 24 + K) ?_ ?_
        · simp only [fsd, hf, if_neg c1, if_pos c2]
          rw [tb_or, tb_or, tb_sh (c := 0) 0 rfl (by omega) hi, tb_sh (c := 24) 24 rfl (by omega) hi]
          simp
        · simp [c1, n1, n2, n3]
      · have n2 : 0 ≤ f := Int32.not_lt.mp c2
        have n3 : 0 < f := Int32.not_le.mp (fun q => c1 (Int32.le_antisymm q n2))
        have n1 : ¬ f ≤ 0 := Int32.not_le.mpr n3
        refine st ((i = 8 + K ∨ i = 16 + K) ∨ i = 24 + K) ?_ ?_
        · simp only [fsd, hf, if_neg c1, if_neg c2]
          rw [tb_or, tb_or, tb_or, tb_sh (c := 8) 8 rfl (by omega) hi, tb_sh (c := 16) 16 rfl (by omega) hi, tb_sh (c := 24) 24 rfl (by omega) hi]
          simp
        · simp [c1, n1, n2, n3, or_assoc]
/-- the four bits of a plane at a corner -/
theorem fsd_bits (A : Nat → Nat → Int32) (x y z w : Int32) {t : Nat} (ht : t < 8) : (tb (fsd A x y z w 8) t = true ↔ fov A x y z w t ≤ 0) ∧ (tb (fsd A x y z w 8) (8 + t) = true ↔ 0 ≤ fov A x y z w t) ∧ (tb (fsd A x y z w 8) (16 + t) = true ↔ 0 < fov A x y z w t) ∧ (tb (fsd A x y z w 8) (24 + t) = true ↔ ¬ fov A x y z w t = 0) := by
  refine ⟨?_, ?_, ?_, ?_⟩
  · rw [tb_fsd A x y z w 8 (by omega) _ (by omega)]
    constructor
    · rintro ⟨t2, h1, ⟨h2, h3⟩ | ⟨h2, h3⟩ | ⟨h2, h3⟩ | ⟨h2, h3⟩⟩ <;> first | omega | (obtain rfl : t = t2 := (by omega); exact h3)
    · exact fun h => ⟨t, ht, Or.inl ⟨rfl, h⟩⟩
  · rw [tb_fsd A x y z w 8 (by omega) _ (by omega)]
    constructor
    · rintro ⟨t2, h1, ⟨h2, h3⟩ | ⟨h2, h3⟩ | ⟨h2, h3⟩ | ⟨h2, h3⟩⟩ <;> first | omega | (obtain rfl : t = t2 := (by omega); exact h3)
    · exact fun h => ⟨t, ht, Or.inr (Or.inl ⟨rfl, h⟩)⟩
  · rw [tb_fsd A x y z w 8 (by omega) _ (by omega)]
    constructor
    · rintro ⟨t2, h1, ⟨h2, h3⟩ | ⟨h2, h3⟩ | ⟨h2, h3⟩ | ⟨h2, h3⟩⟩ <;> first | omega | (obtain rfl : t = t2 := (by omega); exact h3)
    · exact fun h => ⟨t, ht, Or.inr (Or.inr (Or.inl ⟨rfl, h⟩))⟩
  · rw [tb_fsd A x y z w 8 (by omega) _ (by omega)]
    constructor
    · rintro ⟨t2, h1, ⟨h2, h3⟩ | ⟨h2, h3⟩ | ⟨h2, h3⟩ | ⟨h2, h3⟩⟩ <;> first | omega | (obtain rfl : t = t2 := (by omega); exact h3)
    · exact fun h => ⟨t, ht, Or.inr (Or.inr (Or.inr ⟨rfl, h⟩))⟩

