def Cp1 (A : Nat → Nat → Int32) : Prop := (∀ k, k < 5 → A 28 k = A 2 k) ∧ (∀ x y z w k, k < 5 → (A 2 k = 1 ∨ A 2 k = 2) → ovm A x y z w k = fov A x y z w k) ∧ ∀ x y z w t, t < 3 → (fov A x y z w (5 + t) = 0 ↔ alb x y z t)
def Sm (A : Nat → Nat → Int32) (n : Nat) : Prop := A 36 n = alk (A 33 (4 * n)) (A 33 (4 * n + 1)) (A 33 (4 * n + 2)) ∧ A 34 n = abv A (A 33 (4 * n)) (A 33 (4 * n + 1)) (A 33 (4 * n + 2)) (A 33 (4 * n + 3)) 5 ∧ A 35 n = blw A (A 33 (4 * n)) (A 33 (4 * n + 1)) (A 33 (4 * n + 2)) (A 33 (4 * n + 3)) 5
theorem tbf {b : Bool} : b = false ↔ ¬ b = true := by cases b <;> simp
theorem Sm.ab {A : Nat → Nat → Int32} {n : Nat} (h : Sm A n) (hc : Cp1 A) {k : Nat} (hk : k < 5) (hl : A 2 k = 1 ∨ A 2 k = 2) : (tb (A 34 n) k = true ↔ 0 < vQ A n k) ∧ (tb (A 35 n) k = true ↔ vQ A n k < 0) := by
  rw [h.2.1, h.2.2, tb_abv A _ _ _ _ 5 (by omega) k (by omega), tb_blw A _ _ _ _ 5 (by omega) k (by omega), hc.2.1 _ _ _ _ k hk hl]
  exact ⟨⟨fun q => q.2, fun q => ⟨hk, q⟩⟩, ⟨fun q => q.2, fun q => ⟨hk, q⟩⟩⟩
theorem Sm.al {A : Nat → Nat → Int32} {n : Nat} (h : Sm A n) (hc : Cp1 A) {t : Nat} (ht : t < 3) : tb (A 36 n) t = true ↔ vQ A n (5 + t) = 0 := by
  rw [h.1, tb_alk _ _ _ t ht]
  exact (hc.2.2 _ _ _ _ t ht).symm
theorem tb_L {A : Nat → Nat → Int32} (hc : Cp1 A) (w : Int32) {i : Nat} (hi : i < 32) : tb (okf A w 5) i = true ↔ (i < 5 ∧ A 2 i = w) := by
  rw [tb_okf A w 5 (by omega) i hi]
  constructor
  · rintro ⟨h1, h2⟩; exact ⟨h1, by rw [← hc.1 i h1]; exact h2⟩
  · rintro ⟨h1, h2⟩; exact ⟨h1, by rw [hc.1 i h1]; exact h2⟩
theorem fitV_iff {A : Nat → Nat → Int32} (hc : Cp1 A) {n : Nat} (h : Sm A n) {s p : Nat} (hs : s < 32) (hp : p < 5) : fitV (okf A 1 5) (okf A 2 5) A (nI s) (nI (part p)) n ↔ FitS A s p (vQ A n) := by
  unfold fitV
  rw [z_iff, z_iff, z_iff, z_iff]
  constructor
  · rintro ⟨h1, h2, h3, h4⟩
    refine ⟨fun k hk q1 => ⟨fun hb => ?_, fun hb => ?_⟩, fun k hk q2 hb => ?_, fun t ht hq => ?_⟩
    · have := tbf.mp (h1 k (by omega))
      rw [tb_and, tb_and, Bool.and_eq_true, Bool.and_eq_true, tb_nI s hs k (by omega), tb_L hc 1 (by omega), (h.ab hc hk (Or.inl q1)).1] at this
      exact Int32.not_lt.mp fun z => this ⟨⟨⟨hk, q1⟩, hb⟩, z⟩
    · have := tbf.mp (h2 k (by omega))
      rw [tb_and, tb_and, Bool.and_eq_true, Bool.and_eq_true, tb_not _ (by omega), tb_nI s hs k (by omega), tb_L hc 1 (by omega), (h.ab hc hk (Or.inl q1)).2] at this
      exact Int32.not_lt.mp fun z => this ⟨⟨⟨hk, q1⟩, by simpa using hb⟩, z⟩
    · have := tbf.mp (h3 k (by omega))
      rw [tb_and, tb_and, tb_or, Bool.and_eq_true, Bool.and_eq_true, Bool.or_eq_true, tb_nI s hs k (by omega), tb_L hc 2 (by omega), (h.ab hc hk (Or.inr q2)).1, (h.ab hc hk (Or.inr q2)).2] at this
      exact Int32.le_antisymm (Int32.not_lt.mp fun z => this ⟨⟨⟨hk, q2⟩, hb⟩, Or.inl z⟩) (Int32.not_lt.mp fun z => this ⟨⟨⟨hk, q2⟩, hb⟩, Or.inr z⟩)
    · have := tbf.mp (h4 t (by omega))
      rw [tb_and, tb_not _ (by omega), Bool.and_eq_true, tb_part hp ht] at this
      exact (h.al hc ht).mp (by
        cases hh : tb (A 36 n) t
        · exact absurd ⟨hq, by rw [hh]; rfl⟩ this
        · rfl)
  · rintro ⟨h1, h2, h3⟩
    refine ⟨fun i hi => tbf.mpr ?_, fun i hi => tbf.mpr ?_, fun i hi => tbf.mpr ?_, fun i hi => tbf.mpr ?_⟩
    · rw [tb_and, tb_and, Bool.and_eq_true, Bool.and_eq_true, tb_nI s hs i hi, tb_L hc 1 hi]
      rintro ⟨⟨⟨q0, q1⟩, q2⟩, q3⟩
      exact absurd ((h.ab hc q0 (Or.inl q1)).1.mp q3) (Int32.not_lt.mpr ((h1 i q0 q1).1 q2))
    · rw [tb_and, tb_and, Bool.and_eq_true, Bool.and_eq_true, tb_not _ hi, tb_nI s hs i hi, tb_L hc 1 hi]
      rintro ⟨⟨⟨q0, q1⟩, q2⟩, q3⟩
      exact absurd ((h.ab hc q0 (Or.inl q1)).2.mp q3) (Int32.not_lt.mpr ((h1 i q0 q1).2 (by simpa using q2)))
    · rw [tb_and, tb_and, tb_or, Bool.and_eq_true, Bool.and_eq_true, Bool.or_eq_true, tb_nI s hs i hi, tb_L hc 2 hi]
      rintro ⟨⟨⟨q0, q1⟩, q2⟩, q3⟩
      have hv := h2 i q0 q1 q2
      rw [(h.ab hc q0 (Or.inr q1)).1, (h.ab hc q0 (Or.inr q1)).2, hv] at q3
      exact absurd q3 (by decide)
    · rw [tb_and, tb_not _ hi, Bool.and_eq_true]
      rintro ⟨q1, q2⟩
      by_cases ht : i < 3
      · have := (h.al hc ht).mpr (h3 i ht ((tb_part hp ht).mp q1))
        rw [this] at q2
        cases q2
      · rw [part_hi p hp i hi (by omega)] at q1
        cases q1
theorem op_iff {A : Nat → Nat → Int32} (hc : Cp1 A) {cnt : Nat} (h : ∀ n, n < cnt → Sm A n) {s p : Nat} (hs : s < 32) (hp : p < 5) (P : Nat → Prop) : (¬ fold P (fun _ _ => 1) 0 cnt = 0 ∧ fold P (fun n v => v &&& (A 34 n ^^^ (-1))) (okf A 1 5 &&& (nI s ^^^ (-1))) cnt = 0 ∧ fold P (fun n v => v &&& ((A 34 n ||| A 35 n) ^^^ (-1))) (okf A 2 5 &&& (nI s ^^^ (-1))) cnt = 0 ∧ fold P (fun n v => v &&& A 36 n) (7 &&& (nI (part p) ^^^ (-1))) cnt = 0) ↔ ((∃ n, n < cnt ∧ P n) ∧ SidS A s p (vQ A) P cnt) := by
  rw [fold_any, fold_z, fold_z, fold_z]
  refine and_congr Iff.rfl ?_
  unfold SidS
  refine and_congr ⟨fun hh k hk q1 hb => ?_, fun hh i hi hz => ?_⟩ (and_congr ⟨fun hh k hk q1 hb => ?_, fun hh i hi hz => ?_⟩ ⟨fun hh t ht hq => ?_, fun hh i hi hz => ?_⟩)
  · obtain ⟨n, g1, g2, g3⟩ := hh k (by omega) (by rw [tb_and, tb_not _ (by omega), Bool.and_eq_true, tb_nI s hs k (by omega), tb_L hc 1 (by omega)]; exact ⟨⟨hk, q1⟩, by simpa using hb⟩)
    rw [tb_not _ (by omega)] at g3
    exact ⟨n, g1, g2, ((h n g1).ab hc hk (Or.inl q1)).1.mp (by simpa using g3)⟩
  · rw [tb_and, tb_not _ hi, Bool.and_eq_true, tb_nI s hs i hi, tb_L hc 1 hi] at hz
    obtain ⟨n, g1, g2, g3⟩ := hh i hz.1.1 hz.1.2 (by simpa using hz.2)
    refine ⟨n, g1, g2, ?_⟩
    rw [tb_not _ hi, ((h n g1).ab hc hz.1.1 (Or.inl hz.1.2)).1.mpr g3]
    rfl
  · obtain ⟨n, g1, g2, g3⟩ := hh k (by omega) (by rw [tb_and, tb_not _ (by omega), Bool.and_eq_true, tb_nI s hs k (by omega), tb_L hc 2 (by omega)]; exact ⟨⟨hk, q1⟩, by simpa using hb⟩)
    rw [tb_not _ (by omega)] at g3
    have g4 : tb (A 34 n ||| A 35 n) k = true := by simpa using g3
    rw [tb_or, Bool.or_eq_true, ((h n g1).ab hc hk (Or.inr q1)).1, ((h n g1).ab hc hk (Or.inr q1)).2] at g4
    refine ⟨n, g1, g2, fun z => ?_⟩
    rw [z] at g4
    exact absurd g4 (by decide)
  · rw [tb_and, tb_not _ hi, Bool.and_eq_true, tb_nI s hs i hi, tb_L hc 2 hi] at hz
    obtain ⟨n, g1, g2, g3⟩ := hh i hz.1.1 hz.1.2 (by simpa using hz.2)
    refine ⟨n, g1, g2, ?_⟩
    have g4 : tb (A 34 n ||| A 35 n) i = true := by
      rw [tb_or, Bool.or_eq_true, ((h n g1).ab hc hz.1.1 (Or.inr hz.1.2)).1, ((h n g1).ab hc hz.1.1 (Or.inr hz.1.2)).2]
      refine Classical.byContradiction fun q => g3 (Int32.le_antisymm (Int32.not_lt.mp fun z => q (Or.inl z)) (Int32.not_lt.mp fun z => q (Or.inr z)))
    rw [tb_not _ hi, g4]
    rfl
  · obtain ⟨n, g1, g2, g3⟩ := hh t (by omega) (by
      rw [tb_and, tb_not _ (by omega), Bool.and_eq_true, tb_7 t (by omega)]
      refine ⟨by simpa using ht, ?_⟩
      cases hh2 : tb (nI (part p)) t
      · rfl
      · exact absurd ((tb_part hp ht).mp hh2) hq)
    refine ⟨n, g1, g2, fun z => ?_⟩
    rw [((h n g1).al hc ht).mpr z] at g3
    cases g3
  · rw [tb_and, tb_not _ hi, Bool.and_eq_true, tb_7 i hi, decide_eq_true_eq] at hz
    obtain ⟨n, g1, g2, g3⟩ := hh i hz.1 (fun q => by
      rw [(tb_part hp hz.1).mpr q] at hz
      exact absurd hz.2 (by decide))
    exact ⟨n, g1, g2, tbf.mpr fun q => g3 (((h n g1).al hc hz.1).mp q)⟩
theorem OpV_iff {A : Nat → Nat → Int32} (hc : Cp1 A) {cnt : Nat} (h : ∀ n, n < cnt → Sm A n) {s p : Nat} (hs : s < 32) (hp : p < 5) : OpV (okf A 1 5) (okf A 2 5) A (nI s) (nI (part p)) (fitV (okf A 1 5) (okf A 2 5) A (nI s) (nI (part p))) cnt ↔ ((∃ n, n < cnt ∧ FitS A s p (vQ A n)) ∧ SidS A s p (vQ A) (fun n => FitS A s p (vQ A n)) cnt) := by
  unfold OpV
  rw [op_iff hc h hs hp]
  have hP : ∀ n, n < cnt → (fitV (okf A 1 5) (okf A 2 5) A (nI s) (nI (part p)) n ↔ FitS A s p (vQ A n)) := fun n hn => fitV_iff hc (h n hn) hs hp
  rw [SidS_P hP]
  refine and_congr ⟨fun ⟨n, h1, h2⟩ => ⟨n, h1, (hP n h1).mp h2⟩, fun ⟨n, h1, h2⟩ => ⟨n, h1, (hP n h1).mpr h2⟩⟩ Iff.rfl
/-- at the bound -/
theorem OpM_iff {A : Nat → Nat → Int32} (hc : Cp1 A) {cnt : Nat} (h : ∀ n, n < cnt → Sm A n) (h19 : A 27 19 = okf A 1 5) (h20 : A 27 20 = okf A 2 5) {s p : Nat} (hs : s < 32) (hp : p < 5) (up dn : Int64) (a b c : Int32) : OpM A (nI s) (nI (part p)) 1 up dn a b c cnt ↔ ((∃ n, n < cnt ∧ (FitS A s p (vQ A n) ∧ cmpM A up dn a b c n = 0)) ∧ SidS A s p (vQ A) (fun n => FitS A s p (vQ A n) ∧ cmpM A up dn a b c n = 0) cnt) := by
  unfold OpM smf stf otf apf
  rw [h19, h20, op_iff hc h hs hp]
  have hP : ∀ n, n < cnt → (gM A (nI s) (nI (part p)) 1 up dn a b c n ↔ (FitS A s p (vQ A n) ∧ cmpM A up dn a b c n = 0)) := fun n hn => by
    have e : fitM A (nI s) (nI (part p)) n ↔ FitS A s p (vQ A n) := by
      rw [← fitV_iff hc (h n hn) hs hp]
      unfold fitM fitV
      rw [h19, h20]
    unfold gM
    rw [e]
    refine and_congr Iff.rfl ⟨fun q => q.resolve_left (by decide), Or.inr⟩
  rw [SidS_P hP]
  refine and_congr ⟨fun ⟨n, h1, h2⟩ => ⟨n, h1, (hP n h1).mp h2⟩, fun ⟨n, h1, h2⟩ => ⟨n, h1, (hP n h1).mpr h2⟩⟩ Iff.rfl
theorem fitM_iff {A : Nat → Nat → Int32} (hc : Cp1 A) {n : Nat} (h : Sm A n) (h19 : A 27 19 = okf A 1 5) (h20 : A 27 20 = okf A 2 5) {s p : Nat} (hs : s < 32) (hp : p < 5) : fitM A (nI s) (nI (part p)) n ↔ FitS A s p (vQ A n) := by
  rw [← fitV_iff hc h hs hp]
  unfold fitM fitV
  rw [h19, h20]
/-- facts -/
theorem same_grp : ∀ p, p < 5 → ∀ a, a < 3 → ∀ b, b < 3 → ((nI a = nI b ∨ ((nI a < 3 ∧ nI b < 3) ∧ (((nI (part p)) >>> (((nI a + nI b) - 1) &&& 31)) &&& 1) = 1)) ↔ grp p a = grp p b) := by decide +kernel
def Cp2 (A : Nat → Nat → Int32) : Prop := ∀ k, k < 5 → A 2 k = 3 → A 29 (4 * k) = A 7 k ∧ A 29 (4 * k + 1) = A 8 k
theorem HasF_iff {A : Nat → Nat → Int32} (hc : Cp1 A) (hf : FOk A) (h2 : Cp2 A) {s p : Nat} (hp : p < 5) : HasF A s p ↔ FacM A s (nI (part p)) := by
  have si : ∀ k, k < 5 → ∀ m, m < 5 → A 2 k = 3 → A 2 m = 3 → (SameM (A 29 (4 * k)) (A 29 (4 * m)) (nI (part p)) ↔ Eq3 p (fi A k) (fi A m)) := fun k hk m hm q1 q2 => by
    obtain ⟨⟨a1, a2⟩, -⟩ := hf k hk q1
    obtain ⟨⟨b1, b2⟩, -⟩ := hf m hm q2
    rw [(h2 k hk q1).1, (h2 m hm q2).1, a2, b2]
    have := same_grp p hp _ a1 _ b1
    unfold SameM Eq3
    exact this
  have sj : ∀ k, k < 5 → ∀ m, m < 5 → A 2 k = 3 → A 2 m = 3 → (SameM (A 29 (4 * k + 1)) (A 29 (4 * m + 1)) (nI (part p)) ↔ Eq3 p (fj A k) (fj A m)) := fun k hk m hm q1 q2 => by
    obtain ⟨-, a1, a2⟩ := hf k hk q1
    obtain ⟨-, b1, b2⟩ := hf m hm q2
    rw [(h2 k hk q1).2, (h2 m hm q2).2, a2, b2]
    have := same_grp p hp _ a1 _ b1
    unfold SameM Eq3
    exact this
  constructor
  · rintro h k hk m hm ⟨⟨q1, q2, q3, q4⟩, q5⟩
    rw [hc.1 k hk] at q1
    rw [hc.1 m hm] at q2
    rw [si k hk m hm q1 q2] at q4
    rw [sj k hk m hm q1 q2] at q5
    rcases Nat.lt_trichotomy m k with e | e | e
    · exact h k hk m e ⟨q1, q2, Or.inl q3, q4, fun z => q5 ⟨fun y => (z.mp y).2, fun y => z.mpr ⟨q3, y⟩⟩⟩
    · subst e
      exact q5 ⟨fun _ => q3, fun _ => rfl⟩
    · exact h m hm k e ⟨q2, q1, Or.inr q3, Eq.symm q4, fun z => q5 ⟨fun y => (z.mp (Eq.symm y)).1, fun y => Eq.symm (z.mpr ⟨y, q3⟩)⟩⟩
  · rintro h k hk m hm ⟨q1, q2, q3, q4, q5⟩
    have hm5 : m < 5 := by omega
    rcases q3 with q3 | q3
    · refine h k hk m hm5 ⟨⟨by rw [hc.1 k hk]; exact q1, by rw [hc.1 m hm5]; exact q2, q3, (si k hk m hm5 q1 q2).mpr q4⟩, fun z => q5 ?_⟩
      rw [sj k hk m hm5 q1 q2] at z
      exact ⟨fun y => ⟨q3, z.mp y⟩, fun y => z.mpr y.2⟩
    · refine h m hm5 k hk ⟨⟨by rw [hc.1 m hm5]; exact q2, by rw [hc.1 k hk]; exact q1, q3, (si m hm5 k hk q2 q1).mpr (Eq.symm q4)⟩, fun z => q5 ?_⟩
      rw [sj m hm5 k hk q2 q1] at z
      exact ⟨fun y => ⟨z.mp (Eq.symm y), q3⟩, fun y => Eq.symm (z.mpr y.1)⟩
