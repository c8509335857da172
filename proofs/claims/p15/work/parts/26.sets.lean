/-! ===== sets of worlds as words of bits ===== -/
noncomputable def wI (W : Nat → Prop) : Nat → Int32
  | 0 => 0
  | k + 1 => @ite Int32 (W k) (Classical.propDecidable _) (wI W k ||| (1 <<< (nI k &&& 31))) (wI W k)
theorem wI_t {W : Nat → Prop} {k : Nat} (h : W k) : wI W (k + 1) = wI W k ||| (1 <<< (nI k &&& 31)) := if_pos h
theorem wI_f {W : Nat → Prop} {k : Nat} (h : ¬ W k) : wI W (k + 1) = wI W k := if_neg h
theorem tb_wI (W : Nat → Prop) : ∀ k, k ≤ 32 → ∀ i, i < 32 → (tb (wI W k) i = true ↔ (i < k ∧ W i)) := by
  intro k
  induction k with
  | zero =>
    intro _ i _
    show tb 0 i = true ↔ _
    rw [tb_0]
    constructor
    · intro h; cases h
    · intro h; omega
  | succ k ih =>
    intro hk i hi
    rcases Classical.em (W k) with q | q
    · rw [wI_t q, tb_or, tb_pow k (by omega) i hi, Bool.or_eq_true, ih (by omega) i hi, decide_eq_true_eq]
      constructor
      · rintro (⟨h1, h2⟩ | rfl)
        · exact ⟨by omega, h2⟩
        · exact ⟨by omega, q⟩
      · rintro ⟨h1, h2⟩
        by_cases e : i = k
        · exact Or.inr e
        · exact Or.inl ⟨by omega, h2⟩
    · rw [wI_f q, ih (by omega) i hi]
      constructor
      · rintro ⟨h1, h2⟩; exact ⟨by omega, h2⟩
      · rintro ⟨h1, h2⟩
        refine ⟨?_, h2⟩
        by_cases e : i = k
        · subst e; exact absurd h2 q
        · omega
theorem tb_w (W : Nat → Prop) {i : Nat} (hi : i < 32) : tb (wI W 32) i = true ↔ W i := by
  rw [tb_wI W 32 (Nat.le_refl _) i hi]
  exact ⟨fun h => h.2, fun h => ⟨hi, h⟩⟩
theorem tb_ext2 {x y : Int32} (h : ∀ i, i < 32 → (tb x i = true ↔ tb y i = true)) : x = y := tb_ext fun i hi => Bool.eq_iff_iff.mpr (h i hi)
theorem wI_32 {W : Nat → Prop} {K : Nat} (hK : K ≤ 32) (h : ∀ s, s < 32 → W s → s < K) : wI W K = wI W 32 := tb_ext2 fun i hi => by
  rw [tb_wI W K hK i hi, tb_w W hi]
  exact ⟨fun z => z.2, fun z => ⟨h i hi z, z⟩⟩
theorem wI_c {V W : Nat → Prop} (h : ∀ s, s < 32 → (V s ↔ W s)) : wI V 32 = wI W 32 := tb_ext2 fun i hi => by
  rw [tb_w V hi, tb_w W hi]
  exact h i hi
theorem wI_eq {V W : Nat → Prop} (h : wI V 32 = wI W 32) {s : Nat} (hs : s < 32) : V s ↔ W s := by
  rw [← tb_w V hs, ← tb_w W hs, h]
theorem wI_z {W : Nat → Prop} : wI W 32 = 0 ↔ ∀ s, s < 32 → ¬ W s := by
  rw [z_iff]
  constructor
  · intro h s hs hw
    have := h s hs
    rw [(tb_w W hs).mpr hw] at this
    cases this
  · intro h s hs
    cases e : tb (wI W 32) s with
    | false => rfl
    | true => exact absurd ((tb_w W hs).mp e) (h s hs)
theorem wI_and (V W : Nat → Prop) : wI V 32 &&& wI W 32 = wI (fun s => V s ∧ W s) 32 := tb_ext2 fun i hi => by
  rw [tb_and, Bool.and_eq_true, tb_w V hi, tb_w W hi, tb_w _ hi]
theorem wI_or (V W : Nat → Prop) : wI V 32 ||| wI W 32 = wI (fun s => V s ∨ W s) 32 := tb_ext2 fun i hi => by
  rw [tb_or, Bool.or_eq_true, tb_w V hi, tb_w W hi, tb_w _ hi]
theorem wI_sub {V W : Nat → Prop} (h : ∀ s, s < 32 → V s → W s) : wI V 32 &&& (wI W 32 ^^^ (-1)) = 0 := by
  rw [z_iff]
  intro i hi
  rw [tb_and, tb_not _ hi]
  cases e : tb (wI V 32) i with
  | false => rfl
  | true =>
    rw [(tb_w W hi).mpr (h i hi ((tb_w V hi).mp e))]
    rfl
theorem ushr_k : ∀ k, k < 32 → ((nI k).toUInt32 &&& Int32.toUInt32 31) = UInt32.ofNat k := by decide +kernel
theorem tb_1 : ∀ i, i < 32 → tb 1 i = decide (i = 0) := by decide +kernel
theorem ushr_tb (x : Int32) {k : Nat} (hk : k < 32) : ((x.toUInt32 >>> ((nI k).toUInt32 &&& Int32.toUInt32 31)).toInt32 &&& 1) = if tb x k = true then 1 else 0 := by
  have h0 : tb ((x.toUInt32 >>> UInt32.ofNat k).toInt32) 0 = tb x k := by
    have e : (x.toUInt32 >>> UInt32.ofNat k).toInt32.toBitVec = x.toBitVec >>> k := by
      show (x.toUInt32 >>> UInt32.ofNat k).toBitVec = _
      rw [UInt32.toBitVec_shiftRight]
      apply BitVec.eq_of_toNat_eq
      simp only [BitVec.ushiftRight_eq', BitVec.toNat_ushiftRight]
      have : ((UInt32.ofNat k).toBitVec % 32).toNat = k := by
        simp
        omega
      rw [this]
      rfl
    unfold tb
    rw [e, BitVec.getLsbD_ushiftRight, Nat.add_zero]
  rw [ushr_k k hk]
  apply tb_ext
  intro i hi
  rw [tb_and, tb_1 i hi]
  by_cases e : i = 0
  · subst e
    rw [h0]
    cases h : tb x k with
    | true => rw [if_pos rfl]; decide
    | false => rw [if_neg (by decide)]; decide
  · have e2 : ∀ i, i < 32 → i ≠ 0 → tb 1 i = false ∧ tb 0 i = false := by decide +kernel
    obtain ⟨g1, g2⟩ := e2 i hi e
    rw [show decide (i = 0) = false from decide_eq_false e, Bool.and_false]
    split
    · exact g1.symm
    · exact g2.symm
/-- how many bits there are below k -/
def pcn (x : Int32) : Nat → Nat
  | 0 => 0
  | k + 1 => if tb x k = true then pcn x k + 1 else pcn x k
theorem pcn_w (W : Nat → Prop) (f : Nat → Nat) (h0 : f 0 = 0) (ht : ∀ k, W k → f (k + 1) = f k + 1) (hf : ∀ k, ¬ W k → f (k + 1) = f k) : ∀ k, k ≤ 32 → pcn (wI W 32) k = f k := by
  intro k
  induction k with
  | zero => exact fun _ => h0.symm
  | succ k ih =>
    intro hk
    have ih := ih (by omega)
    rcases Classical.em (W k) with q | q
    · rw [ht k q, ← ih]
      exact if_pos ((tb_w W (by omega)).mpr q)
    · rw [hf k q, ← ih]
      exact if_neg fun z => q ((tb_w W (by omega)).mp z)
theorem pcn_cnt (A : Nat → Nat → Int32) (dm ncl : Nat) : pcn (wI (Wd A dm ncl) 32) 32 = cntw A dm ncl 32 :=
  pcn_w _ _ rfl (fun _ h => cntw_t h) (fun _ h => cntw_f h) 32 (Nat.le_refl _)
theorem nI_if (n : Nat) (p : Prop) [Decidable p] : nI n + (if p then 1 else 0) = nI (if p then n + 1 else n) := by
  split
  · exact nI_1 n
  · exact Int32.add_zero _
/-- the condition of 'with' -/
theorem HL_with : ∀ m, m < 10 → ∀ s, s < 32 → (((nI s >>> ((nI m / 2) &&& 31)) &&& 1) = 1 - (nI m - nI m / 2 * 2) ↔ HL s m) := by
  have h : ∀ m, m < 10 → ∀ s, s < 32 → (((nI s >>> ((nI m / 2) &&& 31)) &&& 1) = 1 - (nI m - nI m / 2 * 2) ↔ (s.testBit (m / 2) = true ↔ m % 2 = 0)) := by decide +kernel
  exact h
