/-! ===== worlds: one set on both sides ===== -/
def Cpl (A : Nat → Nat → Int32) (dm ncl : Nat) : Prop := KI A dm ncl ∧ (∀ k, k < 5 → A 28 k = A 2 k) ∧ Cp2 A ∧ Cp3 A ∧ Fixp A ∧ (∀ k, k < 5 → (dm.testBit k = true ↔ ¬ A 2 k = 0)) ∧ A 27 4 = nI ncl ∧ ∀ i, i < 24 → A 30 i = A 10 i
theorem sub_z (x y : Int32) : (1 * x + (-1) * y + 0) = 0 ↔ x = y := by
  constructor
  · intro h
    have : x = (1 * x + (-1) * y + 0) + y := by grind
    rw [this, h]
    grind
  · rintro rfl
    grind
theorem Cpl.c1 {A : Nat → Nat → Int32} {dm ncl : Nat} (h : Cpl A dm ncl) (hp : PlC A) : Cp1 A := by
  obtain ⟨-, h1, -, h3, hf, -⟩ := h
  refine ⟨h1, fun x y z w k hk hl => ?_, fun x y z w t ht => ?_⟩
  · have hL : Lin A k := by unfold Lin; rw [h1 k hk]; exact hl
    have e := (h3.1 k hk hL).1
    have e2 := RC_row3 hp hk
    rw [e] at e2
    unfold RC row29 at e2
    have a1 := congrArg Prod.fst e2
    have a2 := congrArg (fun q => q.2.1) e2
    have a3 := congrArg (fun q => q.2.2.1) e2
    have a4 := congrArg (fun q => q.2.2.2) e2
    simp only at a1 a2 a3 a4
    rw [ovm_t hL]
    unfold fov
    rw [a1, a2, a3, a4]
  · have e := hf (5 + t) (by omega) (by omega)
    have ft : ∀ t, t < 3 → fx9 (fxi (5 + t)) = (match t with | 0 => (1, -1, 0, 0) | 1 => (1, 0, -1, 0) | _ => (0, 1, -1, 0)) := by decide +kernel
    rw [ft t ht] at e
    unfold RC at e
    have a1 := congrArg Prod.fst e
    have a2 := congrArg (fun q => q.2.1) e
    have a3 := congrArg (fun q => q.2.2.1) e
    have a4 := congrArg (fun q => q.2.2.2) e
    unfold fov
    rcases (show t = 0 ∨ t = 1 ∨ t = 2 by omega) with rfl | rfl | rfl
    · simp only at a1 a2 a3 a4
      rw [a1, a2, a3, a4, show (1 * x + (-1) * y + 0 * z - 0 * w : Int32) = 1 * x + (-1) * y + 0 by grind]
      exact sub_z x y
    · simp only at a1 a2 a3 a4
      rw [a1, a2, a3, a4, show (1 * x + 0 * y + (-1) * z - 0 * w : Int32) = 1 * x + (-1) * z + 0 by grind]
      exact sub_z x z
    · simp only at a1 a2 a3 a4
      rw [a1, a2, a3, a4, show (0 * x + 1 * y + (-1) * z - 0 * w : Int32) = 1 * y + (-1) * z + 0 by grind]
      exact sub_z y z
theorem CornI.sd {A : Nat → Nat → Int32} {cnt : Nat} (h : CornI A cnt) : ∀ n, n < cnt → Sd A n := by
  intro n hn
  obtain ⟨p, q, r, -, -, -, -, g1, g2, g3, g4, g5⟩ := h.2 n hn
  unfold Sd
  rw [g1, g2, g3, g4]
  exact g5
theorem CornM.sm {A : Nat → Nat → Int32} {cnt N : Nat} (h : CornM A cnt N) : ∀ n, n < cnt → Sm A n := by
  intro n hn
  obtain ⟨i, j, k, -, -, -, -, g1, g2, g3, g4, g5, g6, g7⟩ := h.2 n hn
  unfold Sm
  rw [g1, g2, g3, g4]
  exact ⟨g5, g6, g7⟩
def fo4 (A : Nat → Nat → Int32) (c : Crn) : Nat → Int32 := fov A c.1 c.2.1 c.2.2.1 c.2.2.2
theorem exc {A : Nat → Nat → Int32} {cnt cnt2 : Nat} (h : ∀ c, (∃ n, n < cnt ∧ cC A n = c) ↔ ∃ n, n < cnt2 ∧ cQ A n = c) (F : Crn → Prop) : (∃ n, n < cnt ∧ F (cC A n)) ↔ ∃ n, n < cnt2 ∧ F (cQ A n) := by
  constructor
  · rintro ⟨n, h1, h2⟩
    obtain ⟨m, h3, h4⟩ := (h _).mp ⟨n, h1, rfl⟩
    exact ⟨m, h3, by rw [h4]; exact h2⟩
  · rintro ⟨n, h1, h2⟩
    obtain ⟨m, h3, h4⟩ := (h _).mpr ⟨n, h1, rfl⟩
    exact ⟨m, h3, by rw [h4]; exact h2⟩
theorem SidS_x {A : Nat → Nat → Int32} {cnt cnt2 : Nat} (h : ∀ c, (∃ n, n < cnt ∧ cC A n = c) ↔ ∃ n, n < cnt2 ∧ cQ A n = c) (s p : Nat) (P : Crn → Prop) : SidS A s p (vC A) (fun n => P (cC A n)) cnt ↔ SidS A s p (vQ A) (fun n => P (cQ A n)) cnt2 := by
  have e1 := fun k => exc h (fun c => P c ∧ 0 < fo4 A c k)
  have e2 := fun k => exc h (fun c => P c ∧ ¬ fo4 A c k = 0)
  unfold SidS
  exact and_congr ⟨fun hh k q1 q2 q3 => (e1 k).mp (hh k q1 q2 q3), fun hh k q1 q2 q3 => (e1 k).mpr (hh k q1 q2 q3)⟩ (and_congr ⟨fun hh k q1 q2 q3 => (e2 k).mp (hh k q1 q2 q3), fun hh k q1 q2 q3 => (e2 k).mpr (hh k q1 q2 q3)⟩ ⟨fun hh t q1 q2 => (e2 (5 + t)).mp (hh t q1 q2), fun hh t q1 q2 => (e2 (5 + t)).mpr (hh t q1 q2)⟩)
/-- both caches stand -/
def Bth (A : Nat → Nat → Int32) (dm ncl cnt cnt2 : Nat) : Prop := Cpl A dm ncl ∧ CacheI A cnt ∧ MCache A cnt2
section BTH
variable {A : Nat → Nat → Int32} {dm ncl cnt cnt2 : Nat}
theorem Bth.cpl (h : Bth A dm ncl cnt cnt2) : Cpl A dm ncl := h.1
theorem Bth.ca (h : Bth A dm ncl cnt cnt2) : CacheI A cnt := h.2.1
theorem Bth.mc (h : Bth A dm ncl cnt cnt2) : MCache A cnt2 := h.2.2
theorem Bth.crn (h : Bth A dm ncl cnt cnt2) : ∀ c, (∃ n, n < cnt ∧ cC A n = c) ↔ ∃ n, n < cnt2 ∧ cQ A n = c := fun c => crn_iff h.ca.2.2.1 h.mc.2.2.1 h.cpl.2.2.2.1 h.cpl.2.2.2.2.1 h.ca.2.2.2.1 h.mc.2.2.2.1 c
theorem Bth.c1 (h : Bth A dm ncl cnt cnt2) : Cp1 A := h.cpl.c1 h.ca.2.2.1
theorem Bth.opn (h : Bth A dm ncl cnt cnt2) {s p : Nat} (hs : s < 32) (hp : p < 5) : Opn A s p cnt ↔ (FacM A s (nI (part p)) ∧ OpV (okf A 1 5) (okf A 2 5) A (nI s) (nI (part p)) (fitV (okf A 1 5) (okf A 2 5) A (nI s) (nI (part p))) cnt2) := by
  unfold Opn
  rw [HasF_iff h.c1 h.cpl.1.1 h.cpl.2.2.1 hp, HavP_iff h.ca.2.2.2.1.sd s p, OpV_iff h.c1 h.mc.2.2.2.1.sm hs hp]
  have e1 := exc h.crn (fun c => FitS A s p (fo4 A c))
  have e2 := SidS_x h.crn s p (fun c => FitS A s p (fo4 A c))
  exact and_congr Iff.rfl (and_congr e1 e2)
theorem mask_dm {A : Nat → Nat → Int32} {dm : Nat} (hd : dm < 32) (h1 : ∀ k, k < 5 → A 28 k = A 2 k) (h2 : ∀ k, k < 5 → (dm.testBit k = true ↔ ¬ A 2 k = 0)) : (31 &&& (okf A 0 5 ^^^ (-1))) = nI dm := by
  apply tb_ext
  intro i hi
  have h31 : ∀ i, i < 32 → tb 31 i = decide (i < 5) := by decide +kernel
  rw [tb_and, tb_not _ hi, h31 i hi, tb_nI dm hd i hi]
  have e := tb_okf A 0 5 (by omega) i hi
  by_cases c : i < 5
  · have h2 := h2 i c
    rw [← h1 i c] at h2
    cases ho : tb (okf A 0 5) i
    · have : ¬ A 28 i = 0 := fun z => by rw [e.mpr ⟨c, z⟩] at ho; cases ho
      simp [c, h2.mpr this]
    · have : A 28 i = 0 := (e.mp ho).2
      cases hb : dm.testBit i
      · simp
      · exact absurd this (h2.mp hb)
  · have : dm.testBit i = false := Nat.testBit_lt_two_pow (Nat.lt_of_lt_of_le hd (Nat.pow_le_pow_right (show 0 < 2 by decide) (show 5 ≤ i by omega)))
    simp [c, this]
theorem Cpl.mask (h : Cpl A dm ncl) : (31 &&& (okf A 0 5 ^^^ (-1))) = nI dm := mask_dm h.1.2.2.2.1 h.2.1 h.2.2.2.2.2.1
theorem Cpl.sub (h : Cpl A dm ncl) {s : Nat} (hs : s < 32) : subM A s ↔ s &&& dm = s := by
  unfold subM
  rw [h.mask]
  exact sub_ok s hs dm h.1.2.2.2.1
theorem Cpl.sat (h : Cpl A dm ncl) (s : Nat) : SatM A s ncl ↔ SatC A s ncl := by
  have h8 := h.1.2.2.2.2.2
  have e : ∀ i, i < 24 → (LitHM A s i ↔ LitH A s i) := fun i hi => by
    unfold LitHM LitH litM lit
    rw [h.2.2.2.2.2.2.2 i hi]
  constructor
  · intro hh n hn
    obtain ⟨i, g1, g2, g3⟩ := hh n hn
    exact ⟨i, by omega, by omega, (e i (by omega)).mp g3⟩
  · intro hh n hn
    obtain ⟨i, g1, g2, g3⟩ := hh n hn
    exact ⟨i, by omega, by omega, (e i (by omega)).mpr g3⟩
theorem Bth.pos (h : Bth A dm ncl cnt cnt2) {s p : Nat} (hs : s < 32) (hp : p < 5) : PosV A s p cnt2 ↔ (s &&& dm = s ∧ ¬ A 23 (s * 5 + p) = 0) := by
  unfold PosV
  rw [h.cpl.sub hs, (h.ca.2.2.2.2 s p hs hp).2.2, bi_n, h.opn hs hp]
theorem Bth.wd (h : Bth A dm ncl cnt cnt2) {s : Nat} (hs : s < 32) : Wd A dm ncl s ↔ WdM A ncl s cnt2 := by
  unfold Wd WdM AnyP
  rw [h.cpl.sat]
  constructor
  · rintro ⟨h1, ⟨p, h2, h3⟩, h4⟩
    exact ⟨⟨p, h2, (h.pos hs h2).mpr ⟨h1, h3⟩⟩, h4⟩
  · rintro ⟨⟨p, h2, h3⟩, h4⟩
    obtain ⟨g1, g2⟩ := (h.pos hs h2).mp h3
    exact ⟨g1, ⟨p, h2, g2⟩, h4⟩
theorem Bth.cnts (h : Bth A dm ncl cnt cnt2) : ∀ k, k ≤ 32 → cntw A dm ncl k = cntM A ncl cnt2 tru k := by
  intro k
  induction k with
  | zero => intro _; rfl
  | succ k ih =>
    intro hk
    have ih := ih (by omega)
    rcases Classical.em (Wd A dm ncl k) with q | q
    · rw [cntw_t q, cntM_t ((h.wd (by omega)).mp q) trivial, ih]
    · rw [cntw_f q, cntM_f (fun z => q ((h.wd (by omega)).mpr z.1)), ih]
theorem cntM_z (A : Nat → Nat → Int32) (ncl cnt : Nat) (P : Nat → Prop) (k : Nat) : ¬ cntM A ncl cnt P k = 0 ↔ ∃ s, s < k ∧ WdM A ncl s cnt ∧ P s := by
  induction k with
  | zero =>
    constructor
    · intro h; exact absurd rfl h
    · rintro ⟨s, h, _⟩; omega
  | succ k ih =>
    rcases Classical.em (WdM A ncl k cnt ∧ P k) with q | q
    · rw [cntM_t q.1 q.2]
      exact ⟨fun _ => ⟨k, by omega, q⟩, fun _ => by omega⟩
    · rw [cntM_f q, ih]
      constructor
      · rintro ⟨s, h1, h2⟩; exact ⟨s, by omega, h2⟩
      · rintro ⟨s, h1, h2⟩
        by_cases e : s = k
        · subst e; exact absurd h2 q
        · exact ⟨s, by omega, h2⟩
theorem cntM_e (A : Nat → Nat → Int32) (ncl cnt : Nat) (P : Nat → Prop) (k : Nat) : cntM A ncl cnt P k ≤ cntM A ncl cnt tru k ∧ (cntM A ncl cnt P k = cntM A ncl cnt tru k ↔ ∀ s, s < k → WdM A ncl s cnt → P s) := by
  induction k with
  | zero => exact ⟨Nat.le_refl _, fun _ s h => by omega, fun _ => rfl⟩
  | succ k ih =>
    obtain ⟨i1, i2⟩ := ih
    rcases Classical.em (WdM A ncl k cnt) with q | q
    · rw [cntM_t (P := tru) q trivial]
      rcases Classical.em (P k) with r | r
      · rw [cntM_t q r]
        refine ⟨by omega, fun h s hs hw => ?_, fun h => ?_⟩
        · by_cases e : s = k
          · subst e; exact r
          · exact i2.mp (by omega) s (by omega) hw
        · have := i2.mpr (fun s hs => h s (by omega))
          omega
      · rw [cntM_f (fun z => r z.2)]
        refine ⟨by omega, fun h => by omega, fun h => absurd (h k (by omega) q) r⟩
    · rw [cntM_f (fun z => q z.1), cntM_f (P := tru) (fun z => q z.1)]
      refine ⟨i1, fun h s hs hw => ?_, fun h => i2.mpr (fun s hs => h s (by omega))⟩
      by_cases e : s = k
      · subst e; exact absurd hw q
      · exact i2.mp h s (by omega) hw
theorem Bth.hol (h : Bth A dm ncl cnt cnt2) (m : Nat) : hv A dm ncl m = hvMi A ncl cnt2 m := by
  have e1 : SW A dm ncl m 32 ↔ ¬ cntM A ncl cnt2 (fun s => HL s m) 32 = 0 := by
    rw [cntM_z]
    constructor
    · rintro ⟨s, g1, g2, g3⟩; exact ⟨s, g1, (h.wd g1).mp g2, g3⟩
    · rintro ⟨s, g1, g2, g3⟩; exact ⟨s, g1, (h.wd g1).mpr g2, g3⟩
  obtain ⟨i1, i2⟩ := cntM_e A ncl cnt2 (fun s => HL s m) 32
  have e2 : EW A dm ncl m 32 ↔ cntM A ncl cnt2 (fun s => HL s m) 32 = cntM A ncl cnt2 tru 32 := by
    rw [i2]
    constructor
    · exact fun g s hs hw => g s hs ((h.wd hs).mpr hw)
    · exact fun g s hs hw => g s hs ((h.wd hs).mp hw)
  unfold hv hvMi
  rcases Classical.em (SW A dm ncl m 32) with q | q
  · rw [if_pos q, if_neg (e1.mp q)]
    rcases Classical.em (EW A dm ncl m 32) with r | r
    · have := e2.mp r
      rw [if_pos r, if_neg (by omega)]
    · have : ¬ _ := fun z => r (e2.mpr z)
      rw [if_neg r, if_pos (by omega)]
  · rw [if_neg q, if_pos (Classical.byContradiction fun z => q (e1.mpr z))]
end BTH
