/-! ===== the corners of the class are those of the model ===== -/
def fxi (p : Nat) : Nat := if p < 8 then p + 1 else p - 8
def Fixp (A : Nat → Nat → Int32) : Prop := ∀ p, 5 ≤ p → p < 14 → RC A p = fx9 (fxi p)
def row29 (A : Nat → Nat → Int32) (k : Nat) : Rw := (A 29 (4 * k), A 29 (4 * k + 1), A 29 (4 * k + 2), A 29 (4 * k + 3))
def row3 (A : Nat → Nat → Int32) (k : Nat) : Rw := (A 3 k, A 4 k, A 5 k, A 6 k)
def Cp3 (A : Nat → Nat → Int32) : Prop := (∀ k, k < 5 → Lin A k → row3 A k = row29 A k ∧ Nrm (row3 A k) ∧ f99 (A 6 k)) ∧ ∀ k, k < 5 → ¬ Lin A k → row3 A k = (0, 0, 0, 0)
theorem aplI (A : Nat → Nat → Int32) : ∀ K, (∀ i, i < 9 → (apl A K).1 i = fx9 i) ∧ (∀ k, k < K → Lin A k → (apl A k).2 < (apl A K).2 ∧ (apl A K).1 (apl A k).2 = row29 A k) ∧ (∀ i, i < (apl A K).2 → i < 9 ∨ ∃ k, k < K ∧ Lin A k ∧ i = (apl A k).2) ∧ 9 ≤ (apl A K).2 := by
  intro K
  induction K with
  | zero => exact ⟨fun i _ => rfl, fun k hk => by omega, fun i hi => Or.inl hi, Nat.le_refl _⟩
  | succ K ih =>
    obtain ⟨h1, h2, h3, h4⟩ := ih
    rcases Classical.em (Lin A K) with q | q
    · rw [apl_t q]
      refine ⟨fun i hi => ?_, fun k hk hl => ?_, fun i hi => ?_, ?_⟩
      · show upf (apl A K).1 (apl A K).2 _ i = _
        unfold upf
        rw [if_neg (by omega)]
        exact h1 i hi
      · show _ < (apl A K).2 + 1 ∧ upf (apl A K).1 (apl A K).2 _ (apl A k).2 = _
        unfold upf
        by_cases e : k = K
        · subst e
          rw [if_pos rfl]
          exact ⟨by omega, rfl⟩
        · obtain ⟨g1, g2⟩ := h2 k (by omega) hl
          rw [if_neg (by omega)]
          exact ⟨by omega, g2⟩
      · have hi : i < (apl A K).2 + 1 := hi
        by_cases e : i = (apl A K).2
        · exact Or.inr ⟨K, by omega, q, e⟩
        · rcases h3 i (by omega) with g | ⟨k, g1, g2⟩
          · exact Or.inl g
          · exact Or.inr ⟨k, by omega, g2⟩
      · show 9 ≤ (apl A K).2 + 1
        omega
    · rw [apl_f q]
      refine ⟨h1, fun k hk hl => ?_, fun i hi => ?_, h4⟩
      · by_cases e : k = K
        · subst e; exact absurd hl q
        · exact h2 k (by omega) hl
      · rcases h3 i hi with g | ⟨k, g1, g2⟩
        · exact Or.inl g
        · exact Or.inr ⟨k, by omega, g2⟩
noncomputable def phi (A : Nat → Nat → Int32) (p : Nat) : Nat := if p < 5 then (apl A p).2 else fxi p
def Live (A : Nat → Nat → Int32) (p : Nat) : Prop := 5 ≤ p ∨ Lin A p
theorem fxi_lt {p : Nat} (h : 5 ≤ p) (h2 : p < 14) : fxi p < 9 := by unfold fxi; split <;> omega
theorem phi_lt {A : Nat → Nat → Int32} {p : Nat} (hp : p < 14) (hl : Live A p) : phi A p < (apl A 5).2 := by
  obtain ⟨h1, h2, h3, h4⟩ := aplI A 5
  unfold phi
  split
  · rename_i h
    exact (h2 p h (hl.resolve_left (by omega))).1
  · have := fxi_lt (show 5 ≤ p by omega) hp
    omega
theorem phi_inj {A : Nat → Nat → Int32} {p q : Nat} (hp : p < 14) (hq : q < 14) (hl : Live A p) (hl2 : Live A q) (h : p ≠ q) : phi A p ≠ phi A q := by
  have key : ∀ p q, p < 14 → q < 14 → Live A p → Live A q → p < q → phi A p ≠ phi A q := by
    intro p q hp hq hl hl2 h
    unfold phi
    by_cases c1 : p < 5
    · have lp := hl.resolve_left (by omega)
      by_cases c2 : q < 5
      · rw [if_pos c1, if_pos c2]
        have := ((aplI A q).2.1 p h lp).1
        omega
      · rw [if_pos c1, if_neg c2]
        have := fxi_lt (show 5 ≤ q by omega) hq
        have := (aplI A p).2.2.2
        omega
    · rw [if_neg c1, if_neg (by omega)]
      unfold fxi
      split <;> split <;> omega
  rcases Nat.lt_or_gt_of_ne h with c | c
  · exact key p q hp hq hl hl2 c
  · exact (key q p hq hp hl2 hl c).symm
theorem phi_sur {A : Nat → Nat → Int32} {i : Nat} (hi : i < (apl A 5).2) : ∃ p, p < 14 ∧ Live A p ∧ phi A p = i := by
  rcases (aplI A 5).2.2.1 i hi with g | ⟨k, g1, g2, g3⟩
  · by_cases c : i < 6
    · refine ⟨i + 8, by omega, Or.inl (by omega), ?_⟩
      unfold phi fxi
      rw [if_neg (by omega), if_neg (by omega)]
      omega
    · refine ⟨i - 1, by omega, Or.inl (by omega), ?_⟩
      unfold phi fxi
      rw [if_neg (by omega), if_pos (by omega)]
      omega
  · refine ⟨k, by omega, Or.inr g2, ?_⟩
    unfold phi
    rw [if_pos g1, g3]
def PlC (A : Nat → Nat → Int32) : Prop := ∀ k, k < 5 → A 13 k = A 3 k ∧ A 14 k = A 4 k ∧ A 15 k = A 5 k ∧ A 16 k = A 6 k
theorem RC_row3 {A : Nat → Nat → Int32} (h : PlC A) {k : Nat} (hk : k < 5) : RC A k = row3 A k := by
  obtain ⟨h1, h2, h3, h4⟩ := h k hk
  unfold RC row3
  rw [h1, h2, h3, h4]
theorem RQ_apl {A : Nat → Nat → Int32} (h : PlR A) {i : Nat} (hi : i < (apl A 5).2) : RQ A i = (apl A 5).1 i := by
  obtain ⟨h1, h2, h3, h4⟩ := h i hi
  unfold RQ
  rw [h1, h2, h3, h4]
theorem phi_row {A : Nat → Nat → Int32} (hc : PlC A) (hq : PlR A) (h3 : Cp3 A) (hf : Fixp A) {p : Nat} (hp : p < 14) (hl : Live A p) : RQ A (phi A p) = RC A p := by
  rw [RQ_apl hq (phi_lt hp hl)]
  unfold phi
  split
  · rename_i h
    have lp := hl.resolve_left (by omega)
    rw [((aplI A 5).2.1 p h lp).2, RC_row3 hc h, (h3.1 p h lp).1]
  · rename_i h
    rw [(aplI A 5).1 _ (fxi_lt (by omega) hp), hf p (by omega) hp]
theorem fx9_nrm : ∀ i, i < 9 → Nrm (fx9 i) := by
  intro i hi
  have h : ∀ i, i < 9 → (decide (-9 ≤ (fx9 i).1 ∧ (fx9 i).1 ≤ 9) && decide (-9 ≤ (fx9 i).2.1 ∧ (fx9 i).2.1 ≤ 9) && decide (-9 ≤ (fx9 i).2.2.1 ∧ (fx9 i).2.2.1 ≤ 9)) = true := by decide +kernel
  have := h i hi
  simp only [Bool.and_eq_true, decide_eq_true_eq] at this
  exact ⟨this.1.1, this.1.2, this.2⟩
theorem nrmC {A : Nat → Nat → Int32} (hc : PlC A) (h3 : Cp3 A) (hf : Fixp A) : ∀ p, p < 14 → Nrm (RC A p) := by
  intro p hp
  by_cases c : p < 5
  · rw [RC_row3 hc c]
    rcases Classical.em (Lin A p) with q | q
    · exact (h3.1 p c q).2.1
    · rw [h3.2 p c q]
      exact ⟨⟨by decide, by decide⟩, ⟨by decide, by decide⟩, ⟨by decide, by decide⟩⟩
  · rw [hf p (by omega) hp]
    exact fx9_nrm _ (fxi_lt (by omega) hp)
theorem nrmQ {A : Nat → Nat → Int32} (hc : PlC A) (hq : PlR A) (h3 : Cp3 A) (hf : Fixp A) : ∀ i, i < (apl A 5).2 → Nrm (RQ A i) := by
  intro i hi
  obtain ⟨p, h1, h2, rfl⟩ := phi_sur hi
  rw [phi_row hc hq h3 hf h1 h2]
  exact nrmC hc h3 hf p h1
theorem T3_live {A : Nat → Nat → Int32} (hc : PlC A) (h3 : Cp3 A) {c : Crn} {p q r : Nat} (h : T3 (RC A) c p q r) : Live A p ∧ Live A q ∧ Live A r := by
  have z : ∀ k, ¬ Live A k → RC A k = (0, 0, 0, 0) := fun k hk => by
    have h5 : k < 5 := Nat.lt_of_not_le fun z => hk (Or.inl z)
    rw [RC_row3 hc h5, h3.2 k h5 (fun z => hk (Or.inr z))]
  refine ⟨Classical.byContradiction fun hk => h.1 ?_, Classical.byContradiction fun hk => h.1 ?_, Classical.byContradiction fun hk => h.1 ?_⟩
  · rw [z _ hk]
    simp [dt3, ra, rb, rc]
  · rw [z _ hk]
    simp [dt3, ra, rb, rc]
  · rw [z _ hk]
    simp [dt3, ra, rb, rc]
theorem T3_eq {R R2 : Nat → Rw} {c : Crn} {i j k i2 j2 k2 : Nat} (h1 : R2 i2 = R i) (h2 : R2 j2 = R j) (h3 : R2 k2 = R k) (h : T3 R c i j k) : T3 R2 c i2 j2 k2 := by
  unfold T3 at h ⊢
  rw [h1, h2, h3]
  exact h
def cC (A : Nat → Nat → Int32) (n : Nat) : Crn := (A 17 n, A 18 n, A 19 n, A 20 n)
def cQ (A : Nat → Nat → Int32) (n : Nat) : Crn := (A 33 (4 * n), A 33 (4 * n + 1), A 33 (4 * n + 2), A 33 (4 * n + 3))
theorem crn_T3C {A : Nat → Nat → Int32} {cnt : Nat} (h : CornI A cnt) (c : Crn) : (∃ n, n < cnt ∧ cC A n = c) ↔ ∃ p q r, p < q ∧ q < r ∧ r < 14 ∧ T3 (RC A) c p q r := by
  constructor
  · rintro ⟨n, hn, rfl⟩
    obtain ⟨p, q, r, g1, g2, g3, g4, g5⟩ := h.2 n hn
    refine ⟨p, q, r, g1, g2, g3, (InB_T3 A p q r _).mpr ⟨g4, ?_⟩⟩
    unfold cC
    rw [g5.1, g5.2.1, g5.2.2.1, g5.2.2.2.1]
  · rintro ⟨p, q, r, g1, g2, g3, g4⟩
    obtain ⟨g5, rfl⟩ := (InB_T3 A p q r c).mp g4
    obtain ⟨n, hn, g6⟩ := h.1 p q r g1 g2 g3 g5
    refine ⟨n, hn, ?_⟩
    unfold cC
    rw [g6.1, g6.2.1, g6.2.2.1, g6.2.2.2.1]
theorem crn_T3Q {A : Nat → Nat → Int32} {cnt N : Nat} (h : CornM A cnt N) (c : Crn) : (∃ n, n < cnt ∧ cQ A n = c) ↔ ∃ i j k, k < j ∧ j < i ∧ i < N ∧ T3 (RQ A) c i j k := by
  constructor
  · rintro ⟨n, hn, rfl⟩
    obtain ⟨i, j, k, g1, g2, g3, g4, g5⟩ := h.2 n hn
    refine ⟨i, j, k, g1, g2, g3, (InM_T3 A i j k _).mpr ⟨g4, ?_⟩⟩
    unfold cQ
    rw [g5.1, g5.2.1, g5.2.2.1, g5.2.2.2.1]
  · rintro ⟨i, j, k, g1, g2, g3, g4⟩
    obtain ⟨g5, rfl⟩ := (InM_T3 A i j k c).mp g4
    obtain ⟨n, hn, g6⟩ := h.1 i j k g1 g2 g3 g5
    refine ⟨n, hn, ?_⟩
    unfold cQ
    rw [g6.1, g6.2.1, g6.2.2.1, g6.2.2.2.1]
theorem crn_iff {A : Nat → Nat → Int32} (hc : PlC A) (hq : PlR A) (h3 : Cp3 A) (hf : Fixp A) {cnt cnt2 : Nat} (hC : CornI A cnt) (hQ : CornM A cnt2 (apl A 5).2) (c : Crn) : (∃ n, n < cnt ∧ cC A n = c) ↔ ∃ n, n < cnt2 ∧ cQ A n = c := by
  rw [crn_T3C hC, crn_T3Q hQ]
  constructor
  · rintro ⟨p, q, r, g1, g2, g3, g4⟩
    obtain ⟨l1, l2, l3⟩ := T3_live hc h3 g4
    have hp : p < 14 := by omega
    have hqq : q < 14 := by omega
    have := T3_dn (R := RQ A) (c := c) (nrmQ hc hq h3 hf) (phi_lt hp l1) (phi_lt hqq l2) (phi_lt g3 l3) (phi_inj hp hqq l1 l2 (by omega)) (phi_inj hp g3 l1 l3 (by omega)) (phi_inj hqq g3 l2 l3 (by omega)) (T3_eq (phi_row hc hq h3 hf hp l1) (phi_row hc hq h3 hf hqq l2) (phi_row hc hq h3 hf g3 l3) g4)
    obtain ⟨i, j, k, f1, f2, f3, f4⟩ := this
    exact ⟨i, j, k, f1, f2, f3, f4⟩
  · rintro ⟨i, j, k, g1, g2, g3, g4⟩
    obtain ⟨p, a1, a2, rfl⟩ := phi_sur g3
    obtain ⟨q, b1, b2, rfl⟩ := phi_sur (show j < (apl A 5).2 by omega)
    obtain ⟨r, c1, c2, rfl⟩ := phi_sur (show k < (apl A 5).2 by omega)
    have d1 : p ≠ q := fun e => by subst e; omega
    have d2 : p ≠ r := fun e => by subst e; omega
    have d3 : q ≠ r := fun e => by subst e; omega
    exact T3_up (nrmC hc h3 hf) a1 b1 c1 d1 d2 d3 (T3_eq (phi_row hc hq h3 hf a1 a2).symm (phi_row hc hq h3 hf b1 b2).symm (phi_row hc hq h3 hf c1 c2).symm g4)
