/-! ===== the clauses out of the script's cells, and their reading ===== -/
def rmm (mm : Nat) (x : Int32) : Int32 := (x &&& 255) - (x &&& 255) / (2 * nI mm) * (2 * nI mm)
theorem rmm_ok {mm P dm : Nat} (hM : Mm mm P dm) (x : Int32) : ∃ j, j < 2 * mm ∧ j < 10 ∧ rmm mm x = nI j := by
  obtain ⟨a, h1, h2⟩ := andk x 255 (by decide)
  have h3 : x &&& 255 = nI a := h2
  unfold rmm
  rw [h3]
  have ha : a < 256 := by omega
  have g2 : ∀ a, a < 256 → nI a - nI a / (2 * nI 2) * (2 * nI 2) = nI (a % 4) := by decide +kernel
  have g3 : ∀ a, a < 256 → nI a - nI a / (2 * nI 3) * (2 * nI 3) = nI (a % 6) := by decide +kernel
  have g4 : ∀ a, a < 256 → nI a - nI a / (2 * nI 4) * (2 * nI 4) = nI (a % 8) := by decide +kernel
  have g5 : ∀ a, a < 256 → nI a - nI a / (2 * nI 5) * (2 * nI 5) = nI (a % 10) := by decide +kernel
  rcases hM with ⟨rfl, -, -⟩ | ⟨rfl, -, -⟩ | ⟨rfl, -, -⟩ | ⟨rfl, -, -⟩
  · exact ⟨a % 4, by omega, by omega, g2 a ha⟩
  · exact ⟨a % 6, by omega, by omega, g3 a ha⟩
  · exact ⟨a % 8, by omega, by omega, g4 a ha⟩
  · exact ⟨a % 10, by omega, by omega, g5 a ha⟩
theorem m2_ne {mm P dm : Nat} (hM : Mm mm P dm) : ¬ (2 * nI mm : Int32) = 0 := by
  rcases hM with ⟨rfl, rfl, rfl⟩ | ⟨rfl, rfl, rfl⟩ | ⟨rfl, rfl, rfl⟩ | ⟨rfl, rfl, rfl⟩ <;> decide
theorem nI_nn : ∀ j, j < 10 → ¬ nI j < 0 := by decide +kernel
theorem rmm_nn {mm P dm : Nat} (hM : Mm mm P dm) (x : Int32) : ¬ rmm mm x < 0 := by
  obtain ⟨j, -, h2, h3⟩ := rmm_ok hM x
  rw [h3]
  exact nI_nn j h2
def clq (mm : Nat) (c : Int32) : Int32 := if (c >>> (8 &&& 31)) &&& 3 = 0 then -1 else rmm mm (c >>> (10 &&& 31))
def clr (mm : Nat) (c : Int32) : Int32 := if clq mm c < 0 then -1 else if (c >>> (18 &&& 31)) &&& 1 = 0 then -1 else rmm mm (c >>> (19 &&& 31))
theorem clq_0 {mm : Nat} {c : Int32} (h : (c >>> (8 &&& 31)) &&& 3 = 0) : -1 = clq mm c := (if_pos h).symm
theorem clq_1 {mm : Nat} {c : Int32} (h : ¬ (c >>> (8 &&& 31)) &&& 3 = 0) : rmm mm (c >>> (10 &&& 31)) = clq mm c := (if_neg h).symm
theorem clr_0 {mm : Nat} {c : Int32} (h : (c >>> (8 &&& 31)) &&& 3 = 0) : -1 = clr mm c := (if_pos (by rw [← clq_0 h]; decide)).symm
theorem clr_1 {mm P dm : Nat} (hM : Mm mm P dm) {c : Int32} (h : ¬ (c >>> (8 &&& 31)) &&& 3 = 0) (h2 : (c >>> (18 &&& 31)) &&& 1 = 0) : -1 = clr mm c := by
  unfold clr
  rw [if_neg (by rw [← clq_1 h]; exact rmm_nn hM _), if_pos h2]
theorem clr_2 {mm P dm : Nat} (hM : Mm mm P dm) {c : Int32} (h : ¬ (c >>> (8 &&& 31)) &&& 3 = 0) (h2 : ¬ (c >>> (18 &&& 31)) &&& 1 = 0) : rmm mm (c >>> (19 &&& 31)) = clr mm c := by
  unfold clr
  rw [if_neg (by rw [← clq_1 h]; exact rmm_nn hM _), if_neg h2]
theorem cl_ok {mm P dm : Nat} (hM : Mm mm P dm) (c : Int32) : (clq mm c = -1 ∨ ∃ j, j < 2 * mm ∧ j < 10 ∧ clq mm c = nI j) ∧ (clr mm c = -1 ∨ ∃ j, j < 2 * mm ∧ j < 10 ∧ clr mm c = nI j) ∧ (clq mm c = -1 → clr mm c = -1) := by
  rcases Classical.em ((c >>> (8 &&& 31)) &&& 3 = 0) with h | h
  · exact ⟨Or.inl (clq_0 h).symm, Or.inl (clr_0 h).symm, fun _ => (clr_0 h).symm⟩
  · refine ⟨Or.inr ?_, ?_, fun z => ?_⟩
    · rw [← clq_1 h]
      exact rmm_ok hM _
    · rcases Classical.em ((c >>> (18 &&& 31)) &&& 1 = 0) with h2 | h2
      · exact Or.inl (clr_1 hM h h2).symm
      · rw [← clr_2 hM h h2]
        exact Or.inr (rmm_ok hM _)
    · exfalso
      rw [← clq_1 h] at z
      have := rmm_nn hM (c >>> (10 &&& 31))
      rw [z] at this
      exact this (by decide)
def Cla (B A : Nat → Nat → Int32) (N : Nat) (xs : Nat → Int32) (mm k : Nat) : Prop :=
  (∀ o, o ≠ 9 → o ≠ 10 → A o = B o) ∧ (∀ i, i < k → A 10 (i * 3) = rmm mm (xc N xs (6 + i)) ∧ A 10 (i * 3 + 1) = clq mm (xc N xs (6 + i)) ∧ A 10 (i * 3 + 2) = clr mm (xc N xs (6 + i))) ∧ A 9 2 = nI k ∧ A 9 3 = 0 ∧ LitOk A
theorem Cla.std {B A : Nat → Nat → Int32} {N : Nat} {xs : Nat → Int32} {mm k dm cnt : Nat} (hB : Std B dm 0 cnt) (h : Cla B A N xs mm k) (hk : k ≤ 8) : Std A dm k cnt := by
  obtain ⟨⟨h1, h2, h3, h4, h5, h6⟩, hC, h05⟩ := hB
  obtain ⟨g1, g2, g3, g4, g5⟩ := h
  refine ⟨⟨FOk_c (g1 2 (by decide) (by decide)) (g1 7 (by decide) (by decide)) (g1 8 (by decide) (by decide)) h1, g5, by rw [g1 1 (by decide) (by decide)]; exact h3, h4, g3, hk⟩, ?_, by rw [g1 0 (by decide) (by decide)]; exact h05⟩
  exact CacheI_c (fun o q1 q2 => g1 o (by omega) (by omega)) (by rw [g1 12 (by decide) (by decide)]) (fun o q1 q2 => g1 o (by omega) (by omega)) hC
theorem lit_ok1 {A : Nat → Nat → Int32} {i : Nat} {x : Int32} (h : A 10 i = x) (hx : x = -1 ∨ ∃ j, j < 10 ∧ x = nI j) : A 10 i = -1 ∨ (lit A i < 10 ∧ A 10 i = nI (lit A i)) := by
  unfold lit
  rw [h]
  rcases hx with q | ⟨j, h1, rfl⟩
  · exact Or.inl q
  · rw [(lit_n j h1).1]
    exact Or.inr ⟨h1, rfl⟩
theorem Cla.add {B A : Nat → Nat → Int32} {N : Nat} {xs : Nat → Int32} {mm P dm k : Nat} (hM : Mm mm P dm) (h : Cla B A N xs mm k) {p q r : Int32} (hp : p = rmm mm (xc N xs (6 + k))) (hq : q = clq mm (xc N xs (6 + k))) (hr : r = clr mm (xc N xs (6 + k))) :
    Cla B (u2 (u2 (u2 (u2 A 10 (k * 3) p) 10 (k * 3 + 1) q) 10 (k * 3 + 2) r) 9 2 (A 9 2 + 1)) N xs mm (k + 1) := by
  obtain ⟨g1, g2, g3, g4, g5⟩ := h
  obtain ⟨o1, o2, -⟩ := cl_ok hM (xc N xs (6 + k))
  obtain ⟨jp, -, o3, o4⟩ := rmm_ok hM (xc N xs (6 + k))
  have hrr : ∀ o, o ≠ 9 → o ≠ 10 → (u2 (u2 (u2 (u2 A 10 (k * 3) p) 10 (k * 3 + 1) q) 10 (k * 3 + 2) r) 9 2 (A 9 2 + 1)) o = A o := fun o q1 q2 => by
    rw [u2_row q1, u2_row q2, u2_row q2, u2_row q2]
  have ho : ∀ i, i < k * 3 ∨ k * 3 + 2 < i → (u2 (u2 (u2 (u2 A 10 (k * 3) p) 10 (k * 3 + 1) q) 10 (k * 3 + 2) r) 9 2 (A 9 2 + 1)) 10 i = A 10 i := fun i hi => by
    rw [u2_o (by decide), u2_k (by omega), u2_k (by omega), u2_k (by omega)]
  have n0 : (u2 (u2 (u2 (u2 A 10 (k * 3) p) 10 (k * 3 + 1) q) 10 (k * 3 + 2) r) 9 2 (A 9 2 + 1)) 10 (k * 3) = p := by
    rw [u2_o (by decide), u2_k (by omega), u2_k (by omega), u2_s]
  have n1 : (u2 (u2 (u2 (u2 A 10 (k * 3) p) 10 (k * 3 + 1) q) 10 (k * 3 + 2) r) 9 2 (A 9 2 + 1)) 10 (k * 3 + 1) = q := by
    rw [u2_o (by decide), u2_k (by omega), u2_s]
  have n2 : (u2 (u2 (u2 (u2 A 10 (k * 3) p) 10 (k * 3 + 1) q) 10 (k * 3 + 2) r) 9 2 (A 9 2 + 1)) 10 (k * 3 + 2) = r := by
    rw [u2_o (by decide), u2_s]
  refine ⟨fun o q1 q2 => by rw [hrr o q1 q2]; exact g1 o q1 q2, fun i hi => ?_, ?_, ?_, fun i hi => ?_⟩
  · by_cases e : i = k
    · subst e
      exact ⟨n0.trans hp, n1.trans hq, n2.trans hr⟩
    · obtain ⟨z1, z2, z3⟩ := g2 i (by omega)
      rw [ho _ (by omega), ho _ (by omega), ho _ (by omega)]
      exact ⟨z1, z2, z3⟩
  · rw [u2_s, g3]; exact nI_1 k
  · rw [u2_k (by decide), u2_o (by decide), u2_o (by decide), u2_o (by decide)]; exact g4
  · by_cases e0 : i = k * 3
    · subst e0
      exact lit_ok1 (n0.trans hp) (Or.inr ⟨jp, o3, o4⟩)
    · by_cases e1 : i = k * 3 + 1
      · subst e1
        exact lit_ok1 (n1.trans hq) (o1.imp id fun ⟨j, _, z2, z3⟩ => ⟨j, z2, z3⟩)
      · by_cases e2 : i = k * 3 + 2
        · subst e2
          exact lit_ok1 (n2.trans hr) (o2.imp id fun ⟨j, _, z2, z3⟩ => ⟨j, z2, z3⟩)
        · unfold lit
          rw [ho i (by omega)]
          exact g5 i hi
theorem q_cl3 (l : Launch) {B A : Nat → Nat → Int32} (G : Nat → Nat → Int64) {N : Nat} {xs : Nat → Int32} {mm P dm k : Nat} (hM : Mm mm P dm) (hB : KI B dm 0) (h : Cla B A N xs mm k) (hk : k < 8) {p q r : Int32} (hp : p = rmm mm (xc N xs (6 + k))) (hq : q = clq mm (xc N xs (6 + k))) (hr : r = clr mm (xc N xs (6 + k))) :
    Sem l mX5_clause [.ref 0, .int p, .int q, .int r] 27 (A, G, PF) 27 (fun r M2 => (∃ v, r = some (.int v)) ∧ ∃ A2, M2 = (A2, G, PF) ∧ Cla B A2 N xs mm (k + 1)) := by
  have h17 : A 1 7 = nI dm := by rw [h.1 1 (by decide) (by decide)]; exact hB.2.2.1
  refine (s_X5_clause l A G dm h17 hB.2.2.2.1 k h.2.2.1 (by omega) p q r).mono ?_
  obtain ⟨o1, o2, o3⟩ := cl_ok hM (xc N xs (6 + k))
  obtain ⟨jp, o4, o5, o6⟩ := rmm_ok hM (xc N xs (6 + k))
  have dfd : ∀ x : Int32, (∃ j, j < 2 * mm ∧ j < 10 ∧ x = nI j) → Dfd dm x := fun x ⟨j, z1, z2, z3⟩ => by rw [z3]; exact (Dfd_nI z2).mpr (hM.tb j z2 z1)
  have hok : ClOk dm p q r := by
    refine ⟨fun z => z.2 ?_, ?_, ?_, ?_⟩
    · rw [hr]
      exact o3 (hq.symm.trans z.1)
    · rw [hp]
      exact dfd _ ⟨jp, o4, o5, o6⟩
    · rw [hq]
      exact o1.imp id (dfd _)
    · rw [hr]
      exact o2.imp id (dfd _)
  rintro v M (⟨-, -, rfl, rfl⟩ | ⟨-, z, -⟩ | ⟨z, -⟩)
  · exact ⟨⟨_, rfl⟩, _, rfl, h.add hM hp hq hr⟩
  · omega
  · exact absurd hok z
theorem LitH_n {A : Nat → Nat → Int32} {s i j : Nat} (hj : j < 10) (h : A 10 i = nI j) (hl : LitH A s i) : HL s j := by
  have := hl.2
  unfold lit at this
  rw [h, (lit_n j hj).1] at this
  exact this
theorem Cla.hit {B A : Nat → Nat → Int32} {N : Nat} {xs : Nat → Int32} {mm P dm nn k s : Nat} (hM : Mm mm P dm) (h : Cla B A N xs mm nn) (hk : k < nn) (hw : Wd A dm nn s) {jp : Nat} (hjp : jp < 10) (ejp : rmm mm (xc N xs (6 + k)) = nI jp) :
    HL s jp ∨ (¬ (xc N xs (6 + k) >>> (8 &&& 31)) &&& 3 = 0 ∧ ∀ jq, jq < 10 → rmm mm (xc N xs (6 + k) >>> (10 &&& 31)) = nI jq → HL s jq) ∨ (¬ (xc N xs (6 + k) >>> (8 &&& 31)) &&& 3 = 0 ∧ ¬ (xc N xs (6 + k) >>> (18 &&& 31)) &&& 1 = 0 ∧ ∀ jr, jr < 10 → rmm mm (xc N xs (6 + k) >>> (19 &&& 31)) = nI jr → HL s jr) := by
  obtain ⟨e0, e1, e2⟩ := h.2.1 k hk
  obtain ⟨i, h1, h2, h3⟩ := hw.2.2 k hk
  rcases (show i = k * 3 ∨ i = k * 3 + 1 ∨ i = k * 3 + 2 by omega) with rfl | rfl | rfl
  · exact Or.inl (LitH_n hjp (e0.trans ejp) h3)
  · rcases Classical.em ((xc N xs (6 + k) >>> (8 &&& 31)) &&& 3 = 0) with q | q
    · exact absurd (e1.trans (clq_0 q).symm) h3.1
    · exact Or.inr (Or.inl ⟨q, fun jq z1 z2 => LitH_n z1 (e1.trans ((clq_1 q).symm.trans z2)) h3⟩)
  · rcases Classical.em ((xc N xs (6 + k) >>> (8 &&& 31)) &&& 3 = 0) with q | q
    · exact absurd (e2.trans (clr_0 q).symm) h3.1
    · rcases Classical.em ((xc N xs (6 + k) >>> (18 &&& 31)) &&& 1 = 0) with q2 | q2
      · exact absurd (e2.trans (clr_1 hM q q2).symm) h3.1
      · exact Or.inr (Or.inr ⟨q, q2, fun jr z1 z2 => LitH_n z1 (e2.trans ((clr_2 hM q q2).symm.trans z2)) h3⟩)
section SAT
variable {B A : Nat → Nat → Int32} {N : Nat} {xs : Nat → Int32} {mm P dm nn k jp jq jr : Nat}
theorem sat_a (hM : Mm mm P dm) (h : Cla B A N xs mm nn) (hk : k < nn) (hjp : jp < 10) (ejp : rmm mm (xc N xs (6 + k)) = nI jp) (h8 : (xc N xs (6 + k) >>> (8 &&& 31)) &&& 3 = 0) : wI (Wd A dm nn) 32 &&& (wI (fun i => HL i jp) 32 ^^^ (-1)) = 0 :=
  wI_sub fun s _ hw => (h.hit hM hk hw hjp ejp).elim id fun z => z.elim (fun z => absurd h8 z.1) (fun z => absurd h8 z.1)
theorem sat_b (hM : Mm mm P dm) (h : Cla B A N xs mm nn) (hk : k < nn) (hjp : jp < 10) (ejp : rmm mm (xc N xs (6 + k)) = nI jp) (hjq : jq < 10) (ejq : rmm mm (xc N xs (6 + k) >>> (10 &&& 31)) = nI jq) (h18 : (xc N xs (6 + k) >>> (18 &&& 31)) &&& 1 = 0) : wI (Wd A dm nn) 32 &&& ((wI (fun i => HL i jp) 32 ||| wI (fun i => HL i jq) 32) ^^^ (-1)) = 0 := by
  rw [wI_or]
  exact wI_sub fun s _ hw => (h.hit hM hk hw hjp ejp).elim Or.inl fun z => z.elim (fun z => Or.inr (z.2 jq hjq ejq)) (fun z => absurd h18 z.2.1)
theorem sat_c (hM : Mm mm P dm) (h : Cla B A N xs mm nn) (hk : k < nn) (hjp : jp < 10) (ejp : rmm mm (xc N xs (6 + k)) = nI jp) (hjq : jq < 10) (ejq : rmm mm (xc N xs (6 + k) >>> (10 &&& 31)) = nI jq) (hjr : jr < 10) (ejr : rmm mm (xc N xs (6 + k) >>> (19 &&& 31)) = nI jr) : wI (Wd A dm nn) 32 &&& (((wI (fun i => HL i jp) 32 ||| wI (fun i => HL i jq) 32) ||| wI (fun i => HL i jr) 32) ^^^ (-1)) = 0 := by
  rw [wI_or, wI_or]
  exact wI_sub fun s _ hw => (h.hit hM hk hw hjp ejp).elim (fun z => Or.inl (Or.inl z)) fun z => z.elim (fun z => Or.inl (Or.inr (z.2 jq hjq ejq))) (fun z => Or.inr (z.2.2 jr hjr ejr))
end SAT
set_option maxRecDepth 100000 in
set_option maxHeartbeats 4000000 in
theorem lp_X6_clauses (l : Launch) (N : Nat) (hN : N < 2 ^ 31) (xs : Nat → Int32) (B : Nat → Nat → Int32) (G : Nat → Nat → Int64) (mm P dm cnt : Nat) (hM : Mm mm P dm) (hB : Std B dm 0 cnt) (nn : Nat) (hnn : nn < 4) (y3 : Int32) (hy3 : y3 = nI nn) (hxn : ((xc N xs 0 >>> (2 &&& 31)) &&& 3) = nI nn) : ∀ k, k ≤ nn → ∀ A, Cla B A N xs mm k → ∀ j5 j6 j7 j8 j9 : Value, Go l (ro1 N xs) mX6_clauses 27 (A, G, PF) 13 [.ref 0, .ref 103, .int (nI mm), .int y3, .int (nI k), j5, j6, j7, j8, j9] [] 27 (fun r M2 => r = none ∧ ∃ nn A2, nn < 4 ∧ ((xc N xs 0 >>> (2 &&& 31)) &&& 3) = nI nn ∧ M2 = (A2, G, PF) ∧ Cla B A2 N xs mm nn) := by
  refine down nn (fun k hk ih A hC j5 j6 j7 j8 j9 => ?_)
  refine go_blk (pc2 := 16) (L2 := [.ref 0, .ref 103, .int (nI mm), .int y3, .int (nI k), j5, j6, j7, j8, j9]) (st2 := [.int y3, .int (nI k)]) (M2 := (A, G, PF)) (hs2 := []) (C := True) [(.iload 4, 0, 0), (.iload_n 3, 0, 0)] [] (by decide +kernel) rfl trivial ?_
  refine go_cmp (cnd := .ge) (off := 107) 123 (by decide +kernel) (by decide) (fun (c1 : y3 ≤ (nI k)) => ?_) (fun (c1 : ¬ y3 ≤ (nI k)) => ?_)
  · skip
    replace c1 : nn ≤ k := (nx_le (a := nn) (b := k) hy3 rfl (by omega) (by omega)).mp c1
    exact go_retv (by decide +kernel) rfl (⟨rfl, nn, A, hnn, hxn, rfl, by rw [show nn = k by omega]; exact hC⟩)
  · skip
    replace c1 : ¬ nn ≤ k := fun zz => c1 ((nx_le (a := nn) (b := k) hy3 rfl (by omega) (by omega)).mpr zz)
    refine go_blk (pc2 := 25) (L2 := [.ref 0, .ref 103, .int (nI mm), .int y3, .int (nI k), j5, j6, j7, j8, j9]) (st2 := [.int (6 + (nI k)), .ref 103]) (M2 := (A, G, PF)) (hs2 := []) (C := True) [(.aload_n 1, 0, 0), (.bipush 6, 0, 0), (.iload 4, 0, 0), (.iadd, 0, 0)] [] (by decide +kernel) rfl trivial ?_
    refine go_call (Y2 := mX6_cell) (n2 := 27) (st := []) [] [.ref 103, .int (6 + (nI k))] ck_6_7 cwX6_cell rfl (by decide +kernel) rfl (fun _ => rfl) (fun h => absurd rfl h) (Nat.le_of_ble_eq_true rfl) (Or.inl rfl) (fun _ _ _ h => h) (s_X6_cell l N hN xs A G (6 + k) (by omega) (6 + (nI k)) (n6p k)) (fun v M2 hp2 => ?_)
    obtain ⟨rfl, rfl⟩ := hp2
    show Go l (ro1 N xs) mX6_clauses 27 (A, G, PF) 28 [.ref 0, .ref 103, .int (nI mm), .int y3, .int (nI k), j5, j6, j7, j8, j9] [.int (xc N xs (6 + k))] 27 _
    refine go_blk (pc2 := 49) (L2 := [.ref 0, .ref 103, .int (nI mm), .int y3, .int (nI k), .int (xc N xs (6 + k)), .int (((xc N xs (6 + k)) &&& (255 : Int32)) - (((xc N xs (6 + k)) &&& (255 : Int32)) / (2 * (nI mm))) * (2 * (nI mm))), j7, j8, j9]) (st2 := [.int (((xc N xs (6 + k)) >>> (8 &&& 31)) &&& 3)]) (M2 := (A, G, PF)) (hs2 := []) (C := (¬ (2 * (nI mm)) = 0) ∧ True) [(.istore 5, 0, 0), (.iload 5, 0, 0), (.sipush 255, 0, 0), (.iand, 0, 0), (.iconst 2, 0, 0), (.iload_n 2, 0, 0), (.imul, 0, 0), (.irem, 0, 0), (.istore 6, 0, 0), (.iload 5, 0, 0), (.bipush 8, 0, 0), (.ishr, 0, 0), (.iconst 3, 0, 0), (.iand, 0, 0)] [] (by decide +kernel) rfl ⟨m2_ne hM, trivial⟩ ?_
    refine go_ifz (cnd := .ne) (off := 7) 56 (by decide +kernel) (by decide) (fun (c3 : ¬ (((xc N xs (6 + k)) >>> (8 &&& 31)) &&& 3) = 0) => ?_) (fun (c3 : (((xc N xs (6 + k)) >>> (8 &&& 31)) &&& 3) = 0) => ?_)
    · skip
      refine go_blk (pc2 := 73) (L2 := [.ref 0, .ref 103, .int (nI mm), .int y3, .int (nI k), .int (xc N xs (6 + k)), .int (((xc N xs (6 + k)) &&& (255 : Int32)) - (((xc N xs (6 + k)) &&& (255 : Int32)) / (2 * (nI mm))) * (2 * (nI mm))), .int ((((xc N xs (6 + k)) >>> (10 &&& 31)) &&& (255 : Int32)) - ((((xc N xs (6 + k)) >>> (10 &&& 31)) &&& (255 : Int32)) / (2 * (nI mm))) * (2 * (nI mm))), j8, j9]) (st2 := [.int ((((xc N xs (6 + k)) >>> (10 &&& 31)) &&& (255 : Int32)) - ((((xc N xs (6 + k)) >>> (10 &&& 31)) &&& (255 : Int32)) / (2 * (nI mm))) * (2 * (nI mm)))]) (M2 := (A, G, PF)) (hs2 := []) (C := (¬ (2 * (nI mm)) = 0) ∧ True) [(.iload 5, 0, 0), (.bipush 10, 0, 0), (.ishr, 0, 0), (.sipush 255, 0, 0), (.iand, 0, 0), (.iconst 2, 0, 0), (.iload_n 2, 0, 0), (.imul, 0, 0), (.irem, 0, 0), (.istore 7, 0, 0), (.iload 7, 0, 0)] [] (by decide +kernel) rfl ⟨m2_ne hM, trivial⟩ ?_
      refine go_ifz (cnd := .lt) (off := 13) 86 (by decide +kernel) (by decide) (fun (h : ((((xc N xs (6 + k)) >>> (10 &&& 31)) &&& (255 : Int32)) - ((((xc N xs (6 + k)) >>> (10 &&& 31)) &&& (255 : Int32)) / (2 * (nI mm))) * (2 * (nI mm))) < 0) => absurd h (rmm_nn hM (xc N xs (6 + k) >>> (10 &&& 31)))) (fun _ => ?_)
      refine go_blk (pc2 := 83) (L2 := [.ref 0, .ref 103, .int (nI mm), .int y3, .int (nI k), .int (xc N xs (6 + k)), .int (((xc N xs (6 + k)) &&& (255 : Int32)) - (((xc N xs (6 + k)) &&& (255 : Int32)) / (2 * (nI mm))) * (2 * (nI mm))), .int ((((xc N xs (6 + k)) >>> (10 &&& 31)) &&& (255 : Int32)) - ((((xc N xs (6 + k)) >>> (10 &&& 31)) &&& (255 : Int32)) / (2 * (nI mm))) * (2 * (nI mm))), j8, j9]) (st2 := [.int (((xc N xs (6 + k)) >>> (18 &&& 31)) &&& 1)]) (M2 := (A, G, PF)) (hs2 := []) (C := True) [(.iload 5, 0, 0), (.bipush 18, 0, 0), (.ishr, 0, 0), (.iconst 1, 0, 0), (.iand, 0, 0)] [] (by decide +kernel) rfl trivial ?_
      refine go_ifz (cnd := .ne) (off := 7) 90 (by decide +kernel) (by decide) (fun (c4 : ¬ (((xc N xs (6 + k)) >>> (18 &&& 31)) &&& 1) = 0) => ?_) (fun (c4 : (((xc N xs (6 + k)) >>> (18 &&& 31)) &&& 1) = 0) => ?_)
      · skip
        refine go_blk (pc2 := 112) (L2 := [.ref 0, .ref 103, .int (nI mm), .int y3, .int (nI k), .int (xc N xs (6 + k)), .int (((xc N xs (6 + k)) &&& (255 : Int32)) - (((xc N xs (6 + k)) &&& (255 : Int32)) / (2 * (nI mm))) * (2 * (nI mm))), .int ((((xc N xs (6 + k)) >>> (10 &&& 31)) &&& (255 : Int32)) - ((((xc N xs (6 + k)) >>> (10 &&& 31)) &&& (255 : Int32)) / (2 * (nI mm))) * (2 * (nI mm))), .int ((((xc N xs (6 + k)) >>> (19 &&& 31)) &&& (255 : Int32)) - ((((xc N xs (6 + k)) >>> (19 &&& 31)) &&& (255 : Int32)) / (2 * (nI mm))) * (2 * (nI mm))), j9]) (st2 := [.int ((((xc N xs (6 + k)) >>> (19 &&& 31)) &&& (255 : Int32)) - ((((xc N xs (6 + k)) >>> (19 &&& 31)) &&& (255 : Int32)) / (2 * (nI mm))) * (2 * (nI mm))), .int ((((xc N xs (6 + k)) >>> (10 &&& 31)) &&& (255 : Int32)) - ((((xc N xs (6 + k)) >>> (10 &&& 31)) &&& (255 : Int32)) / (2 * (nI mm))) * (2 * (nI mm))), .int (((xc N xs (6 + k)) &&& (255 : Int32)) - (((xc N xs (6 + k)) &&& (255 : Int32)) / (2 * (nI mm))) * (2 * (nI mm))), .ref 0]) (M2 := (A, G, PF)) (hs2 := []) (C := (¬ (2 * (nI mm)) = 0) ∧ True) [(.iload 5, 0, 0), (.bipush 19, 0, 0), (.ishr, 0, 0), (.sipush 255, 0, 0), (.iand, 0, 0), (.iconst 2, 0, 0), (.iload_n 2, 0, 0), (.imul, 0, 0), (.irem, 0, 0), (.istore 8, 0, 0), (.aload_n 0, 0, 0), (.iload 6, 0, 0), (.iload 7, 0, 0), (.iload 8, 0, 0)] [] (by decide +kernel) rfl ⟨m2_ne hM, trivial⟩ ?_
        refine go_call (Y2 := mX5_clause) (n2 := 27) (st := []) [.ref 0] [.int (((xc N xs (6 + k)) &&& (255 : Int32)) - (((xc N xs (6 + k)) &&& (255 : Int32)) / (2 * (nI mm))) * (2 * (nI mm))), .int ((((xc N xs (6 + k)) >>> (10 &&& 31)) &&& (255 : Int32)) - ((((xc N xs (6 + k)) >>> (10 &&& 31)) &&& (255 : Int32)) / (2 * (nI mm))) * (2 * (nI mm))), .int ((((xc N xs (6 + k)) >>> (19 &&& 31)) &&& (255 : Int32)) - ((((xc N xs (6 + k)) >>> (19 &&& 31)) &&& (255 : Int32)) / (2 * (nI mm))) * (2 * (nI mm)))] ck_6_27 cwX5_clause rfl (by decide +kernel) rfl (fun h => absurd h (by decide)) (fun _ => ⟨0, rfl, by decide, rfl⟩) (Nat.le_of_ble_eq_true rfl) (Or.inl rfl) (ro1_ro0 N xs) (q_cl3 l G hM hB.1 hC (by omega) rfl (by first | exact clq_0 (by assumption) | exact clq_1 (by assumption)) (by first | exact clr_0 (by assumption) | exact clr_1 hM (by assumption) (by assumption) | exact clr_2 hM (by assumption) (by assumption))) (fun v M2 hp5 => ?_)
        obtain ⟨⟨v9, rfl⟩, A2, rfl, hC2⟩ := hp5
        show Go l (ro1 N xs) mX6_clauses 27 (A2, G, PF) 115 [.ref 0, .ref 103, .int (nI mm), .int y3, .int (nI k), .int (xc N xs (6 + k)), .int (((xc N xs (6 + k)) &&& (255 : Int32)) - (((xc N xs (6 + k)) &&& (255 : Int32)) / (2 * (nI mm))) * (2 * (nI mm))), .int ((((xc N xs (6 + k)) >>> (10 &&& 31)) &&& (255 : Int32)) - ((((xc N xs (6 + k)) >>> (10 &&& 31)) &&& (255 : Int32)) / (2 * (nI mm))) * (2 * (nI mm))), .int ((((xc N xs (6 + k)) >>> (19 &&& 31)) &&& (255 : Int32)) - ((((xc N xs (6 + k)) >>> (19 &&& 31)) &&& (255 : Int32)) / (2 * (nI mm))) * (2 * (nI mm))), j9] [.int v9] 27 _
        refine go_blk (pc2 := 120) (L2 := [.ref 0, .ref 103, .int (nI mm), .int y3, .int ((nI k) + 1), .int (xc N xs (6 + k)), .int (((xc N xs (6 + k)) &&& (255 : Int32)) - (((xc N xs (6 + k)) &&& (255 : Int32)) / (2 * (nI mm))) * (2 * (nI mm))), .int ((((xc N xs (6 + k)) >>> (10 &&& 31)) &&& (255 : Int32)) - ((((xc N xs (6 + k)) >>> (10 &&& 31)) &&& (255 : Int32)) / (2 * (nI mm))) * (2 * (nI mm))), .int ((((xc N xs (6 + k)) >>> (19 &&& 31)) &&& (255 : Int32)) - ((((xc N xs (6 + k)) >>> (19 &&& 31)) &&& (255 : Int32)) / (2 * (nI mm))) * (2 * (nI mm))), .int v9]) (st2 := []) (M2 := (A2, G, PF)) (hs2 := []) (C := True) [(.istore 9, 0, 0), (.iinc 4 1, 0, 0)] [] (by decide +kernel) rfl trivial ?_
        refine go_goto (off := -107) 13 (by decide +kernel) (by decide) ?_
        exact go_as (ih (by omega) A2 hC2 (.int (xc N xs (6 + k))) (.int (((xc N xs (6 + k)) &&& (255 : Int32)) - (((xc N xs (6 + k)) &&& (255 : Int32)) / (2 * (nI mm))) * (2 * (nI mm)))) (.int ((((xc N xs (6 + k)) >>> (10 &&& 31)) &&& (255 : Int32)) - ((((xc N xs (6 + k)) >>> (10 &&& 31)) &&& (255 : Int32)) / (2 * (nI mm))) * (2 * (nI mm)))) (.int ((((xc N xs (6 + k)) >>> (19 &&& 31)) &&& (255 : Int32)) - ((((xc N xs (6 + k)) >>> (19 &&& 31)) &&& (255 : Int32)) / (2 * (nI mm))) * (2 * (nI mm)))) (.int v9)) rfl (by simp only [nI_1]) rfl
      · skip
        refine go_blk (pc2 := 87) (L2 := [.ref 0, .ref 103, .int (nI mm), .int y3, .int (nI k), .int (xc N xs (6 + k)), .int (((xc N xs (6 + k)) &&& (255 : Int32)) - (((xc N xs (6 + k)) &&& (255 : Int32)) / (2 * (nI mm))) * (2 * (nI mm))), .int ((((xc N xs (6 + k)) >>> (10 &&& 31)) &&& (255 : Int32)) - ((((xc N xs (6 + k)) >>> (10 &&& 31)) &&& (255 : Int32)) / (2 * (nI mm))) * (2 * (nI mm))), j8, j9]) (st2 := [.int (-1)]) (M2 := (A, G, PF)) (hs2 := []) (C := True) [(.iconst (-1), 0, 0)] [] (by decide +kernel) rfl trivial ?_
        refine go_goto (off := 16) 103 (by decide +kernel) (by decide) ?_
        refine go_blk (pc2 := 112) (L2 := [.ref 0, .ref 103, .int (nI mm), .int y3, .int (nI k), .int (xc N xs (6 + k)), .int (((xc N xs (6 + k)) &&& (255 : Int32)) - (((xc N xs (6 + k)) &&& (255 : Int32)) / (2 * (nI mm))) * (2 * (nI mm))), .int ((((xc N xs (6 + k)) >>> (10 &&& 31)) &&& (255 : Int32)) - ((((xc N xs (6 + k)) >>> (10 &&& 31)) &&& (255 : Int32)) / (2 * (nI mm))) * (2 * (nI mm))), .int (-1), j9]) (st2 := [.int (-1), .int ((((xc N xs (6 + k)) >>> (10 &&& 31)) &&& (255 : Int32)) - ((((xc N xs (6 + k)) >>> (10 &&& 31)) &&& (255 : Int32)) / (2 * (nI mm))) * (2 * (nI mm))), .int (((xc N xs (6 + k)) &&& (255 : Int32)) - (((xc N xs (6 + k)) &&& (255 : Int32)) / (2 * (nI mm))) * (2 * (nI mm))), .ref 0]) (M2 := (A, G, PF)) (hs2 := []) (C := True) [(.istore 8, 0, 0), (.aload_n 0, 0, 0), (.iload 6, 0, 0), (.iload 7, 0, 0), (.iload 8, 0, 0)] [] (by decide +kernel) rfl trivial ?_
        refine go_call (Y2 := mX5_clause) (n2 := 27) (st := []) [.ref 0] [.int (((xc N xs (6 + k)) &&& (255 : Int32)) - (((xc N xs (6 + k)) &&& (255 : Int32)) / (2 * (nI mm))) * (2 * (nI mm))), .int ((((xc N xs (6 + k)) >>> (10 &&& 31)) &&& (255 : Int32)) - ((((xc N xs (6 + k)) >>> (10 &&& 31)) &&& (255 : Int32)) / (2 * (nI mm))) * (2 * (nI mm))), .int (-1)] ck_6_27 cwX5_clause rfl (by decide +kernel) rfl (fun h => absurd h (by decide)) (fun _ => ⟨0, rfl, by decide, rfl⟩) (Nat.le_of_ble_eq_true rfl) (Or.inl rfl) (ro1_ro0 N xs) (q_cl3 l G hM hB.1 hC (by omega) rfl (by first | exact clq_0 (by assumption) | exact clq_1 (by assumption)) (by first | exact clr_0 (by assumption) | exact clr_1 hM (by assumption) (by assumption) | exact clr_2 hM (by assumption) (by assumption))) (fun v M2 hp6 => ?_)
        obtain ⟨⟨v9, rfl⟩, A2, rfl, hC2⟩ := hp6
        show Go l (ro1 N xs) mX6_clauses 27 (A2, G, PF) 115 [.ref 0, .ref 103, .int (nI mm), .int y3, .int (nI k), .int (xc N xs (6 + k)), .int (((xc N xs (6 + k)) &&& (255 : Int32)) - (((xc N xs (6 + k)) &&& (255 : Int32)) / (2 * (nI mm))) * (2 * (nI mm))), .int ((((xc N xs (6 + k)) >>> (10 &&& 31)) &&& (255 : Int32)) - ((((xc N xs (6 + k)) >>> (10 &&& 31)) &&& (255 : Int32)) / (2 * (nI mm))) * (2 * (nI mm))), .int (-1), j9] [.int v9] 27 _
        refine go_blk (pc2 := 120) (L2 := [.ref 0, .ref 103, .int (nI mm), .int y3, .int ((nI k) + 1), .int (xc N xs (6 + k)), .int (((xc N xs (6 + k)) &&& (255 : Int32)) - (((xc N xs (6 + k)) &&& (255 : Int32)) / (2 * (nI mm))) * (2 * (nI mm))), .int ((((xc N xs (6 + k)) >>> (10 &&& 31)) &&& (255 : Int32)) - ((((xc N xs (6 + k)) >>> (10 &&& 31)) &&& (255 : Int32)) / (2 * (nI mm))) * (2 * (nI mm))), .int (-1), .int v9]) (st2 := []) (M2 := (A2, G, PF)) (hs2 := []) (C := True) [(.istore 9, 0, 0), (.iinc 4 1, 0, 0)] [] (by decide +kernel) rfl trivial ?_
        refine go_goto (off := -107) 13 (by decide +kernel) (by decide) ?_
        exact go_as (ih (by omega) A2 hC2 (.int (xc N xs (6 + k))) (.int (((xc N xs (6 + k)) &&& (255 : Int32)) - (((xc N xs (6 + k)) &&& (255 : Int32)) / (2 * (nI mm))) * (2 * (nI mm)))) (.int ((((xc N xs (6 + k)) >>> (10 &&& 31)) &&& (255 : Int32)) - ((((xc N xs (6 + k)) >>> (10 &&& 31)) &&& (255 : Int32)) / (2 * (nI mm))) * (2 * (nI mm)))) (.int (-1)) (.int v9)) rfl (by simp only [nI_1]) rfl
    · skip
      refine go_blk (pc2 := 53) (L2 := [.ref 0, .ref 103, .int (nI mm), .int y3, .int (nI k), .int (xc N xs (6 + k)), .int (((xc N xs (6 + k)) &&& (255 : Int32)) - (((xc N xs (6 + k)) &&& (255 : Int32)) / (2 * (nI mm))) * (2 * (nI mm))), j7, j8, j9]) (st2 := [.int (-1)]) (M2 := (A, G, PF)) (hs2 := []) (C := True) [(.iconst (-1), 0, 0)] [] (by decide +kernel) rfl trivial ?_
      refine go_goto (off := 16) 69 (by decide +kernel) (by decide) ?_
      refine go_blk (pc2 := 73) (L2 := [.ref 0, .ref 103, .int (nI mm), .int y3, .int (nI k), .int (xc N xs (6 + k)), .int (((xc N xs (6 + k)) &&& (255 : Int32)) - (((xc N xs (6 + k)) &&& (255 : Int32)) / (2 * (nI mm))) * (2 * (nI mm))), .int (-1), j8, j9]) (st2 := [.int (-1)]) (M2 := (A, G, PF)) (hs2 := []) (C := True) [(.istore 7, 0, 0), (.iload 7, 0, 0)] [] (by decide +kernel) rfl trivial ?_
      refine go_ifz (cnd := .lt) (off := 13) 86 (by decide +kernel) (by decide) (fun _ => ?_) (fun (h : ¬ ((-1) : Int32) < 0) => absurd h (by decide))
      refine go_blk (pc2 := 87) (L2 := [.ref 0, .ref 103, .int (nI mm), .int y3, .int (nI k), .int (xc N xs (6 + k)), .int (((xc N xs (6 + k)) &&& (255 : Int32)) - (((xc N xs (6 + k)) &&& (255 : Int32)) / (2 * (nI mm))) * (2 * (nI mm))), .int (-1), j8, j9]) (st2 := [.int (-1)]) (M2 := (A, G, PF)) (hs2 := []) (C := True) [(.iconst (-1), 0, 0)] [] (by decide +kernel) rfl trivial ?_
      refine go_goto (off := 16) 103 (by decide +kernel) (by decide) ?_
      refine go_blk (pc2 := 112) (L2 := [.ref 0, .ref 103, .int (nI mm), .int y3, .int (nI k), .int (xc N xs (6 + k)), .int (((xc N xs (6 + k)) &&& (255 : Int32)) - (((xc N xs (6 + k)) &&& (255 : Int32)) / (2 * (nI mm))) * (2 * (nI mm))), .int (-1), .int (-1), j9]) (st2 := [.int (-1), .int (-1), .int (((xc N xs (6 + k)) &&& (255 : Int32)) - (((xc N xs (6 + k)) &&& (255 : Int32)) / (2 * (nI mm))) * (2 * (nI mm))), .ref 0]) (M2 := (A, G, PF)) (hs2 := []) (C := True) [(.istore 8, 0, 0), (.aload_n 0, 0, 0), (.iload 6, 0, 0), (.iload 7, 0, 0), (.iload 8, 0, 0)] [] (by decide +kernel) rfl trivial ?_
      refine go_call (Y2 := mX5_clause) (n2 := 27) (st := []) [.ref 0] [.int (((xc N xs (6 + k)) &&& (255 : Int32)) - (((xc N xs (6 + k)) &&& (255 : Int32)) / (2 * (nI mm))) * (2 * (nI mm))), .int (-1), .int (-1)] ck_6_27 cwX5_clause rfl (by decide +kernel) rfl (fun h => absurd h (by decide)) (fun _ => ⟨0, rfl, by decide, rfl⟩) (Nat.le_of_ble_eq_true rfl) (Or.inl rfl) (ro1_ro0 N xs) (q_cl3 l G hM hB.1 hC (by omega) rfl (by first | exact clq_0 (by assumption) | exact clq_1 (by assumption)) (by first | exact clr_0 (by assumption) | exact clr_1 hM (by assumption) (by assumption) | exact clr_2 hM (by assumption) (by assumption))) (fun v M2 hp7 => ?_)
      obtain ⟨⟨v9, rfl⟩, A2, rfl, hC2⟩ := hp7
      show Go l (ro1 N xs) mX6_clauses 27 (A2, G, PF) 115 [.ref 0, .ref 103, .int (nI mm), .int y3, .int (nI k), .int (xc N xs (6 + k)), .int (((xc N xs (6 + k)) &&& (255 : Int32)) - (((xc N xs (6 + k)) &&& (255 : Int32)) / (2 * (nI mm))) * (2 * (nI mm))), .int (-1), .int (-1), j9] [.int v9] 27 _
      refine go_blk (pc2 := 120) (L2 := [.ref 0, .ref 103, .int (nI mm), .int y3, .int ((nI k) + 1), .int (xc N xs (6 + k)), .int (((xc N xs (6 + k)) &&& (255 : Int32)) - (((xc N xs (6 + k)) &&& (255 : Int32)) / (2 * (nI mm))) * (2 * (nI mm))), .int (-1), .int (-1), .int v9]) (st2 := []) (M2 := (A2, G, PF)) (hs2 := []) (C := True) [(.istore 9, 0, 0), (.iinc 4 1, 0, 0)] [] (by decide +kernel) rfl trivial ?_
      refine go_goto (off := -107) 13 (by decide +kernel) (by decide) ?_
      exact go_as (ih (by omega) A2 hC2 (.int (xc N xs (6 + k))) (.int (((xc N xs (6 + k)) &&& (255 : Int32)) - (((xc N xs (6 + k)) &&& (255 : Int32)) / (2 * (nI mm))) * (2 * (nI mm)))) (.int (-1)) (.int (-1)) (.int v9)) rfl (by simp only [nI_1]) rfl
set_option maxRecDepth 100000 in
set_option maxHeartbeats 4000000 in
theorem s_X6_clauses (l : Launch) (N : Nat) (hN : N < 2 ^ 31) (xs : Nat → Int32) (B : Nat → Nat → Int32) (G : Nat → Nat → Int64) (mm P dm cnt : Nat) (hM : Mm mm P dm) (hB : Std B dm 0 cnt) (h93 : B 9 3 = 0) : SemR l (ro1 N xs) mX6_clauses [.ref 0, .ref 103, .int (nI mm)] 27 (B, G, PF) 27 (fun r M2 => r = none ∧ ∃ nn A2, nn < 4 ∧ ((xc N xs 0 >>> (2 &&& 31)) &&& 3) = nI nn ∧ M2 = (A2, G, PF) ∧ Cla B A2 N xs mm nn) := by
  refine sem_of_go (by decide) rfl (by decide) (by decide) rfl (Nat.le_of_ble_eq_true rfl) ?_
  show Go l (ro1 N xs) mX6_clauses 27 (B, G, PF) 0 [.ref 0, .ref 103, .int (nI mm), .null, .null, .null, .null, .null, .null, .null] [] 27 (fun r M2 => r = none ∧ ∃ nn A2, nn < 4 ∧ ((xc N xs 0 >>> (2 &&& 31)) &&& 3) = nI nn ∧ M2 = (A2, G, PF) ∧ Cla B A2 N xs mm nn)
  refine go_blk (pc2 := 2) (L2 := [.ref 0, .ref 103, .int (nI mm), .null, .null, .null, .null, .null, .null, .null]) (st2 := [.int 0, .ref 103]) (M2 := (B, G, PF)) (hs2 := []) (C := True) [(.aload_n 1, 0, 0), (.iconst 0, 0, 0)] [] (by decide +kernel) rfl trivial ?_
  refine go_call (Y2 := mX6_cell) (n2 := 27) (st := []) [] [.ref 103, .int 0] ck_6_7 cwX6_cell rfl (by decide +kernel) rfl (fun _ => rfl) (fun h => absurd rfl h) (Nat.le_of_ble_eq_true rfl) (Or.inl rfl) (fun _ _ _ h => h) (s_X6_cell l N hN xs B G 0 (by decide) 0 rfl) (fun v M2 hp1 => ?_)
  obtain ⟨rfl, rfl⟩ := hp1
  obtain ⟨nn, hnn, enn⟩ := and3 (xc N xs 0 >>> (2 &&& 31))
  show Go l (ro1 N xs) mX6_clauses 27 (B, G, PF) 5 [.ref 0, .ref 103, .int (nI mm), .null, .null, .null, .null, .null, .null, .null] [.int (xc N xs 0)] 27 _
  refine go_blk (pc2 := 10) (L2 := [.ref 0, .ref 103, .int (nI mm), .int (((xc N xs 0) >>> (2 &&& 31)) &&& 3), .null, .null, .null, .null, .null, .null]) (st2 := []) (M2 := (B, G, PF)) (hs2 := []) (C := True) [(.iconst 2, 0, 0), (.ishr, 0, 0), (.iconst 3, 0, 0), (.iand, 0, 0), (.istore_n 3, 0, 0)] [] (by decide +kernel) rfl trivial ?_
  obtain ⟨y3, ey3⟩ : ∃ y : Int32, y = (((xc N xs 0) >>> (2 &&& 31)) &&& 3) := ⟨_, rfl⟩
  rw [← ey3]
  refine go_blk (pc2 := 13) (L2 := [.ref 0, .ref 103, .int (nI mm), .int y3, .int 0, .null, .null, .null, .null, .null]) (st2 := []) (M2 := (B, G, PF)) (hs2 := []) (C := True) [(.iconst 0, 0, 0), (.istore 4, 0, 0)] [] (by decide +kernel) rfl trivial ?_
  subst ey3
  exact lp_X6_clauses l N hN xs B G mm P dm cnt hM hB nn hnn _ enn enn 0 (by omega) B ⟨fun _ _ _ => rfl, fun i hi => absurd hi (Nat.not_lt_zero i), hB.1.2.2.2.2.1, h93, hB.1.2.1⟩ _ _ _ _ _
set_option maxRecDepth 100000 in
set_option maxHeartbeats 4000000 in
theorem lp_X6_satisfied (l : Launch) (N : Nat) (hN : N < 2 ^ 31) (xs : Nat → Int32) (A : Nat → Nat → Int32) (G : Nat → Nat → Int64) (B : Nat → Nat → Int32) (mm P dm : Nat) (hM : Mm mm P dm) (nn : Nat) (hnn : nn < 4) (hC : Cla B A N xs mm nn) (y3 : Int32) (hy3 : y3 = nI nn) : ∀ k, k ≤ nn → ∀ (j5 : Value) (j6 : Value) (j7 : Value), Go l (ro1 N xs) mX6_satisfied 27 (A, G, PF) 13 [.int (wI (Wd A dm nn) 32), .ref 103, .int (nI mm), .int y3, .int (nI k), j5, j6, j7] [] 27 (pv 1 (A, G, PF)) := by
  refine down nn (fun k hk ih j5 j6 j7 => ?_)
  refine go_blk (pc2 := 16) (L2 := [.int (wI (Wd A dm nn) 32), .ref 103, .int (nI mm), .int y3, .int (nI k), j5, j6, j7]) (st2 := [.int y3, .int (nI k)]) (M2 := (A, G, PF)) (hs2 := []) (C := True) [(.iload 4, 0, 0), (.iload_n 3, 0, 0)] [] (by decide +kernel) rfl trivial ?_
  refine go_cmp (cnd := .ge) (off := 126) 142 (by decide +kernel) (by decide) (fun (c1 : y3 ≤ (nI k)) => ?_) (fun (c1 : ¬ y3 ≤ (nI k)) => ?_)
  · skip
    replace c1 : nn ≤ k := (nx_le (a := nn) (b := k) hy3 rfl (by omega) (by omega)).mp c1
    refine go_blk (pc2 := 143) (L2 := [.int (wI (Wd A dm nn) 32), .ref 103, .int (nI mm), .int y3, .int (nI k), j5, j6, j7]) (st2 := [.int 1]) (M2 := (A, G, PF)) (hs2 := []) (C := True) [(.iconst 1, 0, 0)] [] (by decide +kernel) rfl trivial ?_
    exact go_retz (by decide +kernel) rfl (Or.inr rfl) (⟨rfl, rfl⟩)
  · skip
    replace c1 : ¬ nn ≤ k := fun zz => c1 ((nx_le (a := nn) (b := k) hy3 rfl (by omega) (by omega)).mpr zz)
    refine go_blk (pc2 := 25) (L2 := [.int (wI (Wd A dm nn) 32), .ref 103, .int (nI mm), .int y3, .int (nI k), j5, j6, j7]) (st2 := [.int (6 + (nI k)), .ref 103]) (M2 := (A, G, PF)) (hs2 := []) (C := True) [(.aload_n 1, 0, 0), (.bipush 6, 0, 0), (.iload 4, 0, 0), (.iadd, 0, 0)] [] (by decide +kernel) rfl trivial ?_
    refine go_call (Y2 := mX6_cell) (n2 := 27) (st := []) [] [.ref 103, .int (6 + (nI k))] ck_6_7 cwX6_cell rfl (by decide +kernel) rfl (fun _ => rfl) (fun h => absurd rfl h) (Nat.le_of_ble_eq_true rfl) (Or.inl rfl) (fun _ _ _ h => h) (s_X6_cell l N hN xs A G (6 + k) (by omega) (6 + (nI k)) (n6p k)) (fun v M2 hp2 => ?_)
    obtain ⟨rfl, rfl⟩ := hp2
    obtain ⟨jp, -, hjp, ejp⟩ := rmm_ok hM (xc N xs (6 + k))
    obtain ⟨jq, -, hjq, ejq⟩ := rmm_ok hM (xc N xs (6 + k) >>> (10 &&& 31))
    obtain ⟨jr, -, hjr, ejr⟩ := rmm_ok hM (xc N xs (6 + k) >>> (19 &&& 31))
    show Go l (ro1 N xs) mX6_satisfied 27 (A, G, PF) 28 [.int (wI (Wd A dm nn) 32), .ref 103, .int (nI mm), .int y3, .int (nI k), j5, j6, j7] [.int (xc N xs (6 + k))] 27 _
    refine go_blk (pc2 := 40) (L2 := [.int (wI (Wd A dm nn) 32), .ref 103, .int (nI mm), .int y3, .int (nI k), .int (xc N xs (6 + k)), j6, j7]) (st2 := [.int (((xc N xs (6 + k)) &&& (255 : Int32)) - (((xc N xs (6 + k)) &&& (255 : Int32)) / (2 * (nI mm))) * (2 * (nI mm)))]) (M2 := (A, G, PF)) (hs2 := []) (C := (¬ (2 * (nI mm)) = 0) ∧ True) [(.istore 5, 0, 0), (.iload 5, 0, 0), (.sipush 255, 0, 0), (.iand, 0, 0), (.iconst 2, 0, 0), (.iload_n 2, 0, 0), (.imul, 0, 0), (.irem, 0, 0)] [] (by decide +kernel) rfl ⟨m2_ne hM, trivial⟩ ?_
    refine go_call (Y2 := mX6_with) (n2 := 27) (st := []) [] [.int (((xc N xs (6 + k)) &&& (255 : Int32)) - (((xc N xs (6 + k)) &&& (255 : Int32)) / (2 * (nI mm))) * (2 * (nI mm)))] ck_6_35 cwX6_with rfl (by decide +kernel) rfl (fun _ => rfl) (fun h => absurd rfl h) (Nat.le_of_ble_eq_true rfl) (Or.inl rfl) (ro1_ro0 N xs) (by rw [show (((xc N xs (6 + k)) &&& (255 : Int32)) - (((xc N xs (6 + k)) &&& (255 : Int32)) / (2 * (nI mm))) * (2 * (nI mm))) = nI jp from ejp]; exact s_X6_with l A G jp hjp) (fun v M2 hp3 => ?_)
    obtain ⟨rfl, rfl⟩ := hp3
    show Go l (ro1 N xs) mX6_satisfied 27 (A, G, PF) 43 [.int (wI (Wd A dm nn) 32), .ref 103, .int (nI mm), .int y3, .int (nI k), .int (xc N xs (6 + k)), j6, j7] [.int (wI (fun i => HL i jp) 32)] 27 _
    refine go_blk (pc2 := 52) (L2 := [.int (wI (Wd A dm nn) 32), .ref 103, .int (nI mm), .int y3, .int (nI k), .int (xc N xs (6 + k)), .int (wI (fun i => HL i jp) 32), j7]) (st2 := [.int (((xc N xs (6 + k)) >>> (8 &&& 31)) &&& 3)]) (M2 := (A, G, PF)) (hs2 := []) (C := True) [(.istore 6, 0, 0), (.iload 5, 0, 0), (.bipush 8, 0, 0), (.ishr, 0, 0), (.iconst 3, 0, 0), (.iand, 0, 0)] [] (by decide +kernel) rfl trivial ?_
    refine go_ifz (cnd := .ne) (off := 7) 59 (by decide +kernel) (by decide) (fun (c4 : ¬ (((xc N xs (6 + k)) >>> (8 &&& 31)) &&& 3) = 0) => ?_) (fun (c4 : (((xc N xs (6 + k)) >>> (8 &&& 31)) &&& 3) = 0) => ?_)
    · skip
      refine go_blk (pc2 := 76) (L2 := [.int (wI (Wd A dm nn) 32), .ref 103, .int (nI mm), .int y3, .int (nI k), .int (xc N xs (6 + k)), .int (wI (fun i => HL i jp) 32), .int ((((xc N xs (6 + k)) >>> (10 &&& 31)) &&& (255 : Int32)) - ((((xc N xs (6 + k)) >>> (10 &&& 31)) &&& (255 : Int32)) / (2 * (nI mm))) * (2 * (nI mm)))]) (st2 := [.int ((((xc N xs (6 + k)) >>> (10 &&& 31)) &&& (255 : Int32)) - ((((xc N xs (6 + k)) >>> (10 &&& 31)) &&& (255 : Int32)) / (2 * (nI mm))) * (2 * (nI mm)))]) (M2 := (A, G, PF)) (hs2 := []) (C := (¬ (2 * (nI mm)) = 0) ∧ True) [(.iload 5, 0, 0), (.bipush 10, 0, 0), (.ishr, 0, 0), (.sipush 255, 0, 0), (.iand, 0, 0), (.iconst 2, 0, 0), (.iload_n 2, 0, 0), (.imul, 0, 0), (.irem, 0, 0), (.istore 7, 0, 0), (.iload 7, 0, 0)] [] (by decide +kernel) rfl ⟨m2_ne hM, trivial⟩ ?_
      refine go_ifz (cnd := .lt) (off := 13) 89 (by decide +kernel) (by decide) (fun (h : ((((xc N xs (6 + k)) >>> (10 &&& 31)) &&& (255 : Int32)) - ((((xc N xs (6 + k)) >>> (10 &&& 31)) &&& (255 : Int32)) / (2 * (nI mm))) * (2 * (nI mm))) < 0) => absurd h (rmm_nn hM (xc N xs (6 + k) >>> (10 &&& 31)))) (fun _ => ?_)
      refine go_blk (pc2 := 83) (L2 := [.int (wI (Wd A dm nn) 32), .ref 103, .int (nI mm), .int y3, .int (nI k), .int (xc N xs (6 + k)), .int (wI (fun i => HL i jp) 32), .int ((((xc N xs (6 + k)) >>> (10 &&& 31)) &&& (255 : Int32)) - ((((xc N xs (6 + k)) >>> (10 &&& 31)) &&& (255 : Int32)) / (2 * (nI mm))) * (2 * (nI mm)))]) (st2 := [.int ((((xc N xs (6 + k)) >>> (10 &&& 31)) &&& (255 : Int32)) - ((((xc N xs (6 + k)) >>> (10 &&& 31)) &&& (255 : Int32)) / (2 * (nI mm))) * (2 * (nI mm))), .int (wI (fun i => HL i jp) 32)]) (M2 := (A, G, PF)) (hs2 := []) (C := True) [(.iload 6, 0, 0), (.iload 7, 0, 0)] [] (by decide +kernel) rfl trivial ?_
      refine go_call (Y2 := mX6_with) (n2 := 27) (st := [.int (wI (fun i => HL i jp) 32)]) [] [.int ((((xc N xs (6 + k)) >>> (10 &&& 31)) &&& (255 : Int32)) - ((((xc N xs (6 + k)) >>> (10 &&& 31)) &&& (255 : Int32)) / (2 * (nI mm))) * (2 * (nI mm)))] ck_6_35 cwX6_with rfl (by decide +kernel) rfl (fun _ => rfl) (fun h => absurd rfl h) (Nat.le_of_ble_eq_true rfl) (Or.inl rfl) (ro1_ro0 N xs) (by rw [show ((((xc N xs (6 + k)) >>> (10 &&& 31)) &&& (255 : Int32)) - ((((xc N xs (6 + k)) >>> (10 &&& 31)) &&& (255 : Int32)) / (2 * (nI mm))) * (2 * (nI mm))) = nI jq from ejq]; exact s_X6_with l A G jq hjq) (fun v M2 hp5 => ?_)
      obtain ⟨rfl, rfl⟩ := hp5
      show Go l (ro1 N xs) mX6_satisfied 27 (A, G, PF) 86 [.int (wI (Wd A dm nn) 32), .ref 103, .int (nI mm), .int y3, .int (nI k), .int (xc N xs (6 + k)), .int (wI (fun i => HL i jp) 32), .int ((((xc N xs (6 + k)) >>> (10 &&& 31)) &&& (255 : Int32)) - ((((xc N xs (6 + k)) >>> (10 &&& 31)) &&& (255 : Int32)) / (2 * (nI mm))) * (2 * (nI mm)))] [.int (wI (fun i => HL i jq) 32), .int (wI (fun i => HL i jp) 32)] 27 _
      refine go_blk (pc2 := 91) (L2 := [.int (wI (Wd A dm nn) 32), .ref 103, .int (nI mm), .int y3, .int (nI k), .int (xc N xs (6 + k)), .int ((wI (fun i => HL i jp) 32) ||| (wI (fun i => HL i jq) 32)), .int ((((xc N xs (6 + k)) >>> (10 &&& 31)) &&& (255 : Int32)) - ((((xc N xs (6 + k)) >>> (10 &&& 31)) &&& (255 : Int32)) / (2 * (nI mm))) * (2 * (nI mm)))]) (st2 := [.int ((((xc N xs (6 + k)) >>> (10 &&& 31)) &&& (255 : Int32)) - ((((xc N xs (6 + k)) >>> (10 &&& 31)) &&& (255 : Int32)) / (2 * (nI mm))) * (2 * (nI mm)))]) (M2 := (A, G, PF)) (hs2 := []) (C := True) [(.ior, 0, 0), (.istore 6, 0, 0), (.iload 7, 0, 0)] [] (by decide +kernel) rfl trivial ?_
      refine go_ifz (cnd := .lt) (off := 34) 125 (by decide +kernel) (by decide) (fun (h : ((((xc N xs (6 + k)) >>> (10 &&& 31)) &&& (255 : Int32)) - ((((xc N xs (6 + k)) >>> (10 &&& 31)) &&& (255 : Int32)) / (2 * (nI mm))) * (2 * (nI mm))) < 0) => absurd h (rmm_nn hM (xc N xs (6 + k) >>> (10 &&& 31)))) (fun _ => ?_)
      refine go_blk (pc2 := 101) (L2 := [.int (wI (Wd A dm nn) 32), .ref 103, .int (nI mm), .int y3, .int (nI k), .int (xc N xs (6 + k)), .int ((wI (fun i => HL i jp) 32) ||| (wI (fun i => HL i jq) 32)), .int ((((xc N xs (6 + k)) >>> (10 &&& 31)) &&& (255 : Int32)) - ((((xc N xs (6 + k)) >>> (10 &&& 31)) &&& (255 : Int32)) / (2 * (nI mm))) * (2 * (nI mm)))]) (st2 := [.int (((xc N xs (6 + k)) >>> (18 &&& 31)) &&& 1)]) (M2 := (A, G, PF)) (hs2 := []) (C := True) [(.iload 5, 0, 0), (.bipush 18, 0, 0), (.ishr, 0, 0), (.iconst 1, 0, 0), (.iand, 0, 0)] [] (by decide +kernel) rfl trivial ?_
      refine go_ifz (cnd := .eq) (off := 24) 125 (by decide +kernel) (by decide) (fun (c6 : (((xc N xs (6 + k)) >>> (18 &&& 31)) &&& 1) = 0) => ?_) (fun (c6 : ¬ (((xc N xs (6 + k)) >>> (18 &&& 31)) &&& 1) = 0) => ?_)
      · skip
        refine go_blk (pc2 := 131) (L2 := [.int (wI (Wd A dm nn) 32), .ref 103, .int (nI mm), .int y3, .int (nI k), .int (xc N xs (6 + k)), .int ((wI (fun i => HL i jp) 32) ||| (wI (fun i => HL i jq) 32)), .int ((((xc N xs (6 + k)) >>> (10 &&& 31)) &&& (255 : Int32)) - ((((xc N xs (6 + k)) >>> (10 &&& 31)) &&& (255 : Int32)) / (2 * (nI mm))) * (2 * (nI mm)))]) (st2 := [.int ((wI (Wd A dm nn) 32) &&& (((wI (fun i => HL i jp) 32) ||| (wI (fun i => HL i jq) 32)) ^^^ (-1)))]) (M2 := (A, G, PF)) (hs2 := []) (C := True) [(.iload_n 0, 0, 0), (.iload 6, 0, 0), (.iconst (-1), 0, 0), (.ixor, 0, 0), (.iand, 0, 0)] [] (by decide +kernel) rfl trivial ?_
        refine go_ifz (cnd := .eq) (off := 5) 136 (by decide +kernel) (by decide) (fun _ => ?_) (fun (h : ¬ ((wI (Wd A dm nn) 32) &&& (((wI (fun i => HL i jp) 32) ||| (wI (fun i => HL i jq) 32)) ^^^ (-1))) = 0) => absurd h (fun zz => zz (sat_b hM hC (by omega) hjp ejp hjq ejq (by assumption))))
        refine go_blk (pc2 := 139) (L2 := [.int (wI (Wd A dm nn) 32), .ref 103, .int (nI mm), .int y3, .int ((nI k) + 1), .int (xc N xs (6 + k)), .int ((wI (fun i => HL i jp) 32) ||| (wI (fun i => HL i jq) 32)), .int ((((xc N xs (6 + k)) >>> (10 &&& 31)) &&& (255 : Int32)) - ((((xc N xs (6 + k)) >>> (10 &&& 31)) &&& (255 : Int32)) / (2 * (nI mm))) * (2 * (nI mm)))]) (st2 := []) (M2 := (A, G, PF)) (hs2 := []) (C := True) [(.iinc 4 1, 0, 0)] [] (by decide +kernel) rfl trivial ?_
        refine go_goto (off := -126) 13 (by decide +kernel) (by decide) ?_
        exact go_as (ih (by omega) (.int (xc N xs (6 + k))) (.int ((wI (fun i => HL i jp) 32) ||| (wI (fun i => HL i jq) 32))) (.int ((((xc N xs (6 + k)) >>> (10 &&& 31)) &&& (255 : Int32)) - ((((xc N xs (6 + k)) >>> (10 &&& 31)) &&& (255 : Int32)) / (2 * (nI mm))) * (2 * (nI mm))))) rfl (by simp only [nI_1]) rfl
      · skip
        refine go_blk (pc2 := 119) (L2 := [.int (wI (Wd A dm nn) 32), .ref 103, .int (nI mm), .int y3, .int (nI k), .int (xc N xs (6 + k)), .int ((wI (fun i => HL i jp) 32) ||| (wI (fun i => HL i jq) 32)), .int ((((xc N xs (6 + k)) >>> (10 &&& 31)) &&& (255 : Int32)) - ((((xc N xs (6 + k)) >>> (10 &&& 31)) &&& (255 : Int32)) / (2 * (nI mm))) * (2 * (nI mm)))]) (st2 := [.int ((((xc N xs (6 + k)) >>> (19 &&& 31)) &&& (255 : Int32)) - ((((xc N xs (6 + k)) >>> (19 &&& 31)) &&& (255 : Int32)) / (2 * (nI mm))) * (2 * (nI mm))), .int ((wI (fun i => HL i jp) 32) ||| (wI (fun i => HL i jq) 32))]) (M2 := (A, G, PF)) (hs2 := []) (C := (¬ (2 * (nI mm)) = 0) ∧ True) [(.iload 6, 0, 0), (.iload 5, 0, 0), (.bipush 19, 0, 0), (.ishr, 0, 0), (.sipush 255, 0, 0), (.iand, 0, 0), (.iconst 2, 0, 0), (.iload_n 2, 0, 0), (.imul, 0, 0), (.irem, 0, 0)] [] (by decide +kernel) rfl ⟨m2_ne hM, trivial⟩ ?_
        refine go_call (Y2 := mX6_with) (n2 := 27) (st := [.int ((wI (fun i => HL i jp) 32) ||| (wI (fun i => HL i jq) 32))]) [] [.int ((((xc N xs (6 + k)) >>> (19 &&& 31)) &&& (255 : Int32)) - ((((xc N xs (6 + k)) >>> (19 &&& 31)) &&& (255 : Int32)) / (2 * (nI mm))) * (2 * (nI mm)))] ck_6_35 cwX6_with rfl (by decide +kernel) rfl (fun _ => rfl) (fun h => absurd rfl h) (Nat.le_of_ble_eq_true rfl) (Or.inl rfl) (ro1_ro0 N xs) (by rw [show ((((xc N xs (6 + k)) >>> (19 &&& 31)) &&& (255 : Int32)) - ((((xc N xs (6 + k)) >>> (19 &&& 31)) &&& (255 : Int32)) / (2 * (nI mm))) * (2 * (nI mm))) = nI jr from ejr]; exact s_X6_with l A G jr hjr) (fun v M2 hp7 => ?_)
        obtain ⟨rfl, rfl⟩ := hp7
        show Go l (ro1 N xs) mX6_satisfied 27 (A, G, PF) 122 [.int (wI (Wd A dm nn) 32), .ref 103, .int (nI mm), .int y3, .int (nI k), .int (xc N xs (6 + k)), .int ((wI (fun i => HL i jp) 32) ||| (wI (fun i => HL i jq) 32)), .int ((((xc N xs (6 + k)) >>> (10 &&& 31)) &&& (255 : Int32)) - ((((xc N xs (6 + k)) >>> (10 &&& 31)) &&& (255 : Int32)) / (2 * (nI mm))) * (2 * (nI mm)))] [.int (wI (fun i => HL i jr) 32), .int ((wI (fun i => HL i jp) 32) ||| (wI (fun i => HL i jq) 32))] 27 _
        refine go_blk (pc2 := 131) (L2 := [.int (wI (Wd A dm nn) 32), .ref 103, .int (nI mm), .int y3, .int (nI k), .int (xc N xs (6 + k)), .int (((wI (fun i => HL i jp) 32) ||| (wI (fun i => HL i jq) 32)) ||| (wI (fun i => HL i jr) 32)), .int ((((xc N xs (6 + k)) >>> (10 &&& 31)) &&& (255 : Int32)) - ((((xc N xs (6 + k)) >>> (10 &&& 31)) &&& (255 : Int32)) / (2 * (nI mm))) * (2 * (nI mm)))]) (st2 := [.int ((wI (Wd A dm nn) 32) &&& ((((wI (fun i => HL i jp) 32) ||| (wI (fun i => HL i jq) 32)) ||| (wI (fun i => HL i jr) 32)) ^^^ (-1)))]) (M2 := (A, G, PF)) (hs2 := []) (C := True) [(.ior, 0, 0), (.istore 6, 0, 0), (.iload_n 0, 0, 0), (.iload 6, 0, 0), (.iconst (-1), 0, 0), (.ixor, 0, 0), (.iand, 0, 0)] [] (by decide +kernel) rfl trivial ?_
        refine go_ifz (cnd := .eq) (off := 5) 136 (by decide +kernel) (by decide) (fun _ => ?_) (fun (h : ¬ ((wI (Wd A dm nn) 32) &&& ((((wI (fun i => HL i jp) 32) ||| (wI (fun i => HL i jq) 32)) ||| (wI (fun i => HL i jr) 32)) ^^^ (-1))) = 0) => absurd h (fun zz => zz (sat_c hM hC (by omega) hjp ejp hjq ejq hjr ejr)))
        refine go_blk (pc2 := 139) (L2 := [.int (wI (Wd A dm nn) 32), .ref 103, .int (nI mm), .int y3, .int ((nI k) + 1), .int (xc N xs (6 + k)), .int (((wI (fun i => HL i jp) 32) ||| (wI (fun i => HL i jq) 32)) ||| (wI (fun i => HL i jr) 32)), .int ((((xc N xs (6 + k)) >>> (10 &&& 31)) &&& (255 : Int32)) - ((((xc N xs (6 + k)) >>> (10 &&& 31)) &&& (255 : Int32)) / (2 * (nI mm))) * (2 * (nI mm)))]) (st2 := []) (M2 := (A, G, PF)) (hs2 := []) (C := True) [(.iinc 4 1, 0, 0)] [] (by decide +kernel) rfl trivial ?_
        refine go_goto (off := -126) 13 (by decide +kernel) (by decide) ?_
        exact go_as (ih (by omega) (.int (xc N xs (6 + k))) (.int (((wI (fun i => HL i jp) 32) ||| (wI (fun i => HL i jq) 32)) ||| (wI (fun i => HL i jr) 32))) (.int ((((xc N xs (6 + k)) >>> (10 &&& 31)) &&& (255 : Int32)) - ((((xc N xs (6 + k)) >>> (10 &&& 31)) &&& (255 : Int32)) / (2 * (nI mm))) * (2 * (nI mm))))) rfl (by simp only [nI_1]) rfl
    · skip
      refine go_blk (pc2 := 56) (L2 := [.int (wI (Wd A dm nn) 32), .ref 103, .int (nI mm), .int y3, .int (nI k), .int (xc N xs (6 + k)), .int (wI (fun i => HL i jp) 32), j7]) (st2 := [.int (-1)]) (M2 := (A, G, PF)) (hs2 := []) (C := True) [(.iconst (-1), 0, 0)] [] (by decide +kernel) rfl trivial ?_
      refine go_goto (off := 16) 72 (by decide +kernel) (by decide) ?_
      refine go_blk (pc2 := 76) (L2 := [.int (wI (Wd A dm nn) 32), .ref 103, .int (nI mm), .int y3, .int (nI k), .int (xc N xs (6 + k)), .int (wI (fun i => HL i jp) 32), .int (-1)]) (st2 := [.int (-1)]) (M2 := (A, G, PF)) (hs2 := []) (C := True) [(.istore 7, 0, 0), (.iload 7, 0, 0)] [] (by decide +kernel) rfl trivial ?_
      refine go_ifz (cnd := .lt) (off := 13) 89 (by decide +kernel) (by decide) (fun _ => ?_) (fun (h : ¬ ((-1) : Int32) < 0) => absurd h (by decide))
      refine go_blk (pc2 := 91) (L2 := [.int (wI (Wd A dm nn) 32), .ref 103, .int (nI mm), .int y3, .int (nI k), .int (xc N xs (6 + k)), .int (wI (fun i => HL i jp) 32), .int (-1)]) (st2 := [.int (-1)]) (M2 := (A, G, PF)) (hs2 := []) (C := True) [(.iload 7, 0, 0)] [] (by decide +kernel) rfl trivial ?_
      refine go_ifz (cnd := .lt) (off := 34) 125 (by decide +kernel) (by decide) (fun _ => ?_) (fun (h : ¬ ((-1) : Int32) < 0) => absurd h (by decide))
      refine go_blk (pc2 := 131) (L2 := [.int (wI (Wd A dm nn) 32), .ref 103, .int (nI mm), .int y3, .int (nI k), .int (xc N xs (6 + k)), .int (wI (fun i => HL i jp) 32), .int (-1)]) (st2 := [.int ((wI (Wd A dm nn) 32) &&& ((wI (fun i => HL i jp) 32) ^^^ (-1)))]) (M2 := (A, G, PF)) (hs2 := []) (C := True) [(.iload_n 0, 0, 0), (.iload 6, 0, 0), (.iconst (-1), 0, 0), (.ixor, 0, 0), (.iand, 0, 0)] [] (by decide +kernel) rfl trivial ?_
      refine go_ifz (cnd := .eq) (off := 5) 136 (by decide +kernel) (by decide) (fun _ => ?_) (fun (h : ¬ ((wI (Wd A dm nn) 32) &&& ((wI (fun i => HL i jp) 32) ^^^ (-1))) = 0) => absurd h (fun zz => zz (sat_a hM hC (by omega) hjp ejp (by assumption))))
      refine go_blk (pc2 := 139) (L2 := [.int (wI (Wd A dm nn) 32), .ref 103, .int (nI mm), .int y3, .int ((nI k) + 1), .int (xc N xs (6 + k)), .int (wI (fun i => HL i jp) 32), .int (-1)]) (st2 := []) (M2 := (A, G, PF)) (hs2 := []) (C := True) [(.iinc 4 1, 0, 0)] [] (by decide +kernel) rfl trivial ?_
      refine go_goto (off := -126) 13 (by decide +kernel) (by decide) ?_
      exact go_as (ih (by omega) (.int (xc N xs (6 + k))) (.int (wI (fun i => HL i jp) 32)) (.int (-1))) rfl (by simp only [nI_1]) rfl
set_option maxRecDepth 100000 in
set_option maxHeartbeats 4000000 in
theorem s_X6_satisfied (l : Launch) (N : Nat) (hN : N < 2 ^ 31) (xs : Nat → Int32) (A : Nat → Nat → Int32) (G : Nat → Nat → Int64) (B : Nat → Nat → Int32) (mm P dm : Nat) (hM : Mm mm P dm) (nn : Nat) (hnn : nn < 4) (hC : Cla B A N xs mm nn) (hxn : ((xc N xs 0 >>> (2 &&& 31)) &&& 3) = nI nn) : SemR l (ro1 N xs) mX6_satisfied [.int (wI (Wd A dm nn) 32), .ref 103, .int (nI mm)] 27 (A, G, PF) 27 (pv 1 (A, G, PF)) := by
  refine sem_of_go (by decide) rfl (by decide) (by decide) rfl (Nat.le_of_ble_eq_true rfl) ?_
  show Go l (ro1 N xs) mX6_satisfied 27 (A, G, PF) 0 [.int (wI (Wd A dm nn) 32), .ref 103, .int (nI mm), .null, .null, .null, .null, .null] [] 27 (pv 1 (A, G, PF))
  refine go_blk (pc2 := 2) (L2 := [.int (wI (Wd A dm nn) 32), .ref 103, .int (nI mm), .null, .null, .null, .null, .null]) (st2 := [.int 0, .ref 103]) (M2 := (A, G, PF)) (hs2 := []) (C := True) [(.aload_n 1, 0, 0), (.iconst 0, 0, 0)] [] (by decide +kernel) rfl trivial ?_
  refine go_call (Y2 := mX6_cell) (n2 := 27) (st := []) [] [.ref 103, .int 0] ck_6_7 cwX6_cell rfl (by decide +kernel) rfl (fun _ => rfl) (fun h => absurd rfl h) (Nat.le_of_ble_eq_true rfl) (Or.inl rfl) (fun _ _ _ h => h) (s_X6_cell l N hN xs A G 0 (by decide) 0 rfl) (fun v M2 hp1 => ?_)
  obtain ⟨rfl, rfl⟩ := hp1
  show Go l (ro1 N xs) mX6_satisfied 27 (A, G, PF) 5 [.int (wI (Wd A dm nn) 32), .ref 103, .int (nI mm), .null, .null, .null, .null, .null] [.int (xc N xs 0)] 27 _
  refine go_blk (pc2 := 10) (L2 := [.int (wI (Wd A dm nn) 32), .ref 103, .int (nI mm), .int (((xc N xs 0) >>> (2 &&& 31)) &&& 3), .null, .null, .null, .null]) (st2 := []) (M2 := (A, G, PF)) (hs2 := []) (C := True) [(.iconst 2, 0, 0), (.ishr, 0, 0), (.iconst 3, 0, 0), (.iand, 0, 0), (.istore_n 3, 0, 0)] [] (by decide +kernel) rfl trivial ?_
  obtain ⟨y3, ey3⟩ : ∃ y : Int32, y = (((xc N xs 0) >>> (2 &&& 31)) &&& 3) := ⟨_, rfl⟩
  rw [← ey3]
  refine go_blk (pc2 := 13) (L2 := [.int (wI (Wd A dm nn) 32), .ref 103, .int (nI mm), .int y3, .int 0, .null, .null, .null]) (st2 := []) (M2 := (A, G, PF)) (hs2 := []) (C := True) [(.iconst 0, 0, 0), (.istore 4, 0, 0)] [] (by decide +kernel) rfl trivial ?_
  exact lp_X6_satisfied l N hN xs A G B mm P dm hM nn hnn hC y3 (ey3.trans hxn) 0 (by omega) _ _ _
