def part (p : Nat) : Nat := match p with
  | 0 => 0
  | 1 => 1
  | 2 => 2
  | 3 => 4
  | _ => 7
def fitV (L E : Int32) (A : Nat → Nat → Int32) (x pt : Int32) (n : Nat) : Prop := ((L &&& x) &&& A 34 n) = 0 ∧ ((L &&& (x ^^^ (-1))) &&& A 35 n) = 0 ∧ ((E &&& x) &&& (A 34 n ||| A 35 n)) = 0 ∧ (pt &&& (A 36 n ^^^ (-1))) = 0
def OpV (L E : Int32) (A : Nat → Nat → Int32) (x pt : Int32) (P : Nat → Prop) (cnt : Nat) : Prop := ¬ fold P (fun _ _ => 1) 0 cnt = 0 ∧ fold P (fun n v => v &&& (A 34 n ^^^ (-1))) (L &&& (x ^^^ (-1))) cnt = 0 ∧ fold P (fun n v => v &&& ((A 34 n ||| A 35 n) ^^^ (-1))) (E &&& (x ^^^ (-1))) cnt = 0 ∧ fold P (fun n v => v &&& A 36 n) (7 &&& (pt ^^^ (-1))) cnt = 0
theorem OpM_V (A : Nat → Nat → Int32) (x pt : Int32) (up dn : Int64) (a b c : Int32) (cnt : Nat) : OpM A x pt 0 up dn a b c cnt = OpV (A 27 19) (A 27 20) A x pt (fitV (A 27 19) (A 27 20) A x pt) cnt := by
  have h : gM A x pt 0 up dn a b c = fitV (A 27 19) (A 27 20) A x pt := by
    funext n
    exact propext ⟨fun h => h.1, fun h => ⟨h, Or.inl rfl⟩⟩
  unfold OpM OpV smf stf otf apf
  rw [h]
theorem OpV_c {L E : Int32} {A A2 : Nat → Nat → Int32} (h34 : A2 34 = A 34) (h35 : A2 35 = A 35) (h36 : A2 36 = A 36) (x pt : Int32) (cnt : Nat) : OpV L E A2 x pt (fitV L E A2 x pt) cnt = OpV L E A x pt (fitV L E A x pt) cnt := by
  have h : fitV L E A2 x pt = fitV L E A x pt := by
    funext n
    unfold fitV
    rw [h34, h35, h36]
  unfold OpV
  rw [h, h34, h35, h36]
def subM (A : Nat → Nat → Int32) (s : Nat) : Prop := (nI s &&& ((31 &&& (okf A 0 5 ^^^ (-1))) ^^^ (-1))) = 0
def PosV (A : Nat → Nat → Int32) (s p cnt : Nat) : Prop := subM A s ∧ FacM A s (nI (part p)) ∧ OpV (okf A 1 5) (okf A 2 5) A (nI s) (nI (part p)) (fitV (okf A 1 5) (okf A 2 5) A (nI s) (nI (part p))) cnt
theorem PosV_c {A A2 : Nat → Nat → Int32} (h28 : A2 28 = A 28) (h29 : A2 29 = A 29) (h34 : A2 34 = A 34) (h35 : A2 35 = A 35) (h36 : A2 36 = A 36) (s p cnt : Nat) : PosV A2 s p cnt = PosV A s p cnt := by
  unfold PosV
  rw [okf_c h28, okf_c h28, OpV_c h34 h35 h36]
  have e1 : subM A2 s = subM A s := by unfold subM; rw [okf_c h28]
  have e2 : FacM A2 s (nI (part p)) = FacM A s (nI (part p)) := by unfold FacM BadM; rw [h28, h29]
  rw [e1, e2]
/-- the table of possible cells: the first m are written; nothing else but the two masks has changed -/
def PsI (A A2 : Nat → Nat → Int32) (cnt m : Nat) : Prop := (∀ o, o ≠ 27 → o ≠ 38 → A2 o = A o) ∧ (∀ k, k ≠ 19 → k ≠ 20 → A2 27 k = A 27 k) ∧ (1 ≤ m → A2 27 19 = okf A 1 5 ∧ A2 27 20 = okf A 2 5) ∧ ∀ s p, p < 5 → 5 * s + p < m → A2 38 (5 * s + p) = bi (PosV A s p cnt)
theorem subM0 (A : Nat → Nat → Int32) : subM A 0 := by
  show (nI 0 &&& _) = 0
  exact Int32.zero_and
theorem FacM0 (A : Nat → Nat → Int32) (pt : Int32) : FacM A 0 pt := by
  rintro k _ m _ ⟨⟨_, _, h, _⟩, _⟩
  simp at h
theorem PsI.add {A A2 : Nat → Nat → Int32} {cnt s p : Nat} (h : PsI A A2 cnt (5 * s + p)) (hp : p < 5) : PsI A (u2 (u2 (u2 A2 27 19 (okf A 1 5)) 27 20 (okf A 2 5)) 38 (5 * s + p) (bi (PosV A s p cnt))) cnt (5 * s + p + 1) := by
  refine ⟨fun o h1 h2 => ?_, fun k h1 h2 => ?_, fun _ => ⟨?_, ?_⟩, fun s2 p2 hp2 hlt => ?_⟩
  · funext k
    rw [u2_o h2, u2_o h1, u2_o h1, h.1 o h1 h2]
  · rw [u2_o (by decide), u2_k h2, u2_k h1, h.2.1 k h1 h2]
  · rw [u2_o (by decide), u2_k (by decide), u2_s]
  · rw [u2_o (by decide), u2_s]
  · by_cases e : 5 * s2 + p2 = 5 * s + p
    · obtain ⟨rfl, rfl⟩ : s2 = s ∧ p2 = p := by omega
      rw [u2_s]
    · rw [u2_k e, u2_o (by decide), u2_o (by decide), h.2.2.2 s2 p2 hp2 (by omega)]
theorem PsI.skip {A A2 : Nat → Nat → Int32} {cnt s p : Nat} (h : PsI A A2 cnt (5 * s + p)) (hp : p < 5) (hn : ¬ PosV A s p cnt) (h0 : 1 ≤ 5 * s + p) : PsI A (u2 A2 38 (5 * s + p) 0) cnt (5 * s + p + 1) := by
  refine ⟨fun o h1 h2 => ?_, fun k h1 h2 => ?_, fun _ => ⟨?_, ?_⟩, fun s2 p2 hp2 hlt => ?_⟩
  · funext k
    rw [u2_o h2, h.1 o h1 h2]
  · rw [u2_o (by decide), h.2.1 k h1 h2]
  · rw [u2_o (by decide), (h.2.2.1 h0).1]
  · rw [u2_o (by decide), (h.2.2.1 h0).2]
  · by_cases e : 5 * s2 + p2 = 5 * s + p
    · obtain ⟨rfl, rfl⟩ : s2 = s ∧ p2 = p := by omega
      rw [u2_s, bi_f hn]
    · rw [u2_k e, h.2.2.2 s2 p2 hp2 (by omega)]
def CornM (A : Nat → Nat → Int32) (cnt N : Nat) : Prop := (∀ i j k, k < j → j < i → i < N → InM A i j k → ∃ n, n < cnt ∧ MAt A A n i j k) ∧ ∀ n, n < cnt → ∃ i j k, k < j ∧ j < i ∧ i < N ∧ InM A i j k ∧ MAt A A n i j k
def PlR (A : Nat → Nat → Int32) : Prop := ∀ i, i < (apl A 5).2 → A 32 (4 * i) = ((apl A 5).1 i).1 ∧ A 32 (4 * i + 1) = ((apl A 5).1 i).2.1 ∧ A 32 (4 * i + 2) = ((apl A 5).1 i).2.2.1 ∧ A 32 (4 * i + 3) = ((apl A 5).1 i).2.2.2
def MCache (A : Nat → Nat → Int32) (cnt : Nat) : Prop := cnt ≤ 364 ∧ A 27 13 = nI cnt ∧ PlR A ∧ CornM A cnt (apl A 5).2 ∧ (A 27 19 = okf A 1 5 ∧ A 27 20 = okf A 2 5) ∧ ∀ s p, s < 32 → p < 5 → A 38 (5 * s + p) = bi (PosV A s p cnt)
def KnF (A A2 : Nat → Nat → Int32) : Prop := (∀ o, (o < 32 ∨ o = 37 ∨ 38 < o) → o ≠ 27 → A2 o = A o) ∧ ∀ k, k ≠ 6 → k ≠ 8 → k ≠ 13 → k ≠ 19 → k ≠ 20 → A2 27 k = A 27 k
theorem KnF.rf (A : Nat → Nat → Int32) : KnF A A := ⟨fun _ _ _ => rfl, fun _ _ _ _ _ _ => rfl⟩
theorem apl_c {A A2 : Nat → Nat → Int32} (h28 : A2 28 = A 28) (h29 : A2 29 = A 29) (k : Nat) : apl A2 k = apl A k := by
  induction k with
  | zero => rfl
  | succ k ih =>
    have hL : Lin A2 k = Lin A k := by unfold Lin; rw [h28]
    rcases Classical.em (Lin A k) with q | q
    · rw [apl_t q, apl_t (by rw [hL]; exact q), ih, h29]
    · rw [apl_f q, apl_f (by rw [hL]; exact q), ih]
theorem MAt_c {B A B2 A2 : Nat → Nat → Int32} {n i j k : Nat} (h28 : B2 28 = B 28) (h29 : B2 29 = B 29) (h32 : B2 32 = B 32) (h33 : A2 33 = A 33) (h34 : A2 34 = A 34) (h35 : A2 35 = A 35) (h36 : A2 36 = A 36) (h : MAt B A n i j k) : MAt B2 A2 n i j k := by
  have e : ∀ u v w, mdt B2 i j k u v w = mdt B i j k u v w := fun u v w => by unfold mdt; rw [h32]
  have e0 : mD B2 i j k = mD B i j k := e 0 1 2
  have e1 : mx B2 i j k = mx B i j k := by unfold mx; rw [e0, e]
  have e2 : my B2 i j k = my B i j k := by unfold my; rw [e0, e]
  have e3 : mz B2 i j k = mz B i j k := by unfold mz; rw [e0, e]
  have e4 : mw B2 i j k = mw B i j k := by unfold mw; rw [e0]
  have ab := abv_c h28 h29 (mx B i j k) (my B i j k) (mz B i j k) (mw B i j k) 5
  unfold MAt at h ⊢
  rw [e1, e2, e3, e4, h33, h34, h35, h36, ab.2.1, ab.2.2]
  exact h
theorem InM_c {B B2 : Nat → Nat → Int32} (h32 : B2 32 = B 32) (i j k : Nat) : InM B2 i j k = InM B i j k := by
  have e : ∀ u v w, mdt B2 i j k u v w = mdt B i j k u v w := fun u v w => by unfold mdt; rw [h32]
  have e0 : mD B2 i j k = mD B i j k := e 0 1 2
  have e1 : mx B2 i j k = mx B i j k := by unfold mx; rw [e0, e]
  have e2 : my B2 i j k = my B i j k := by unfold my; rw [e0, e]
  have e3 : mz B2 i j k = mz B i j k := by unfold mz; rw [e0, e]
  have e4 : mw B2 i j k = mw B i j k := by unfold mw; rw [e0]
  unfold InM
  rw [e0, e1, e2, e3, e4]
theorem knowed {A A1 A2 A3 : Nat → Nat → Int32} {cnt : Nat} (h1 : PlI (u2 A 27 6 1) A1 (apl (u2 A 27 6 1) 5).1 (apl (u2 A 27 6 1) 5).2) (h2 : MI (GT3 (apl (u2 A 27 6 1) 5).2 0 0) (u2 A1 27 13 0) A2 cnt) (hc : cnt ≤ 364) (h3 : PsI A2 A3 cnt 160) : MCache A3 cnt ∧ KnF A A3 ∧ A3 27 6 = 1 := by
  have r1 : ∀ o, o ≠ 27 → o ≠ 32 → A1 o = A o := fun o q1 q2 => by
    funext k
    rw [h1.1 o k q2 (by omega), u2_o q1]
  have r2 : ∀ o, (o < 33 ∨ 36 < o) → o ≠ 27 → A2 o = A1 o := fun o q1 q2 => by
    rw [h2.1 o q1 q2]
    funext k
    exact u2_o q2
  have e28 : A3 28 = A2 28 := h3.1 28 (by decide) (by decide)
  have e29 : A3 29 = A2 29 := h3.1 29 (by decide) (by decide)
  have e32 : A3 32 = A2 32 := h3.1 32 (by decide) (by decide)
  have e33 : A3 33 = A2 33 := h3.1 33 (by decide) (by decide)
  have e34 : A3 34 = A2 34 := h3.1 34 (by decide) (by decide)
  have e35 : A3 35 = A2 35 := h3.1 35 (by decide) (by decide)
  have e36 : A3 36 = A2 36 := h3.1 36 (by decide) (by decide)
  have f28 : A3 28 = (u2 A 27 6 1) 28 := by rw [e28, r2 28 (by omega) (by decide), r1 28 (by decide) (by decide)]; funext k; exact (u2_o (by decide)).symm
  have f29 : A3 29 = (u2 A 27 6 1) 29 := by rw [e29, r2 29 (by omega) (by decide), r1 29 (by decide) (by decide)]; funext k; exact (u2_o (by decide)).symm
  have hap : apl A3 5 = apl (u2 A 27 6 1) 5 := apl_c f28 f29 5
  have g32 : A3 32 = A1 32 := by rw [e32, r2 32 (by omega) (by decide)]
  have b32 : (u2 A1 27 13 0) 32 = A1 32 := by funext k; exact u2_o (by decide)
  have b28 : (u2 A1 27 13 0) 28 = A3 28 := by rw [e28, r2 28 (by omega) (by decide)]; funext k; exact u2_o (by decide)
  have b29 : (u2 A1 27 13 0) 29 = A3 29 := by rw [e29, r2 29 (by omega) (by decide)]; funext k; exact u2_o (by decide)
  refine ⟨⟨hc, by rw [h3.2.1 13 (by decide) (by decide)]; exact h2.2.2.1, fun i hi => ?_, ⟨fun i j k q1 q2 q3 q4 => ?_, fun n hn => ?_⟩, ?_, fun s p hs hp => ?_⟩, ⟨fun o q1 q2 => ?_, fun k q1 q2 q3 q4 q5 => ?_⟩, ?_⟩
  · rw [hap] at hi ⊢
    rw [g32]
    exact h1.2.2 i hi
  · rw [hap] at q3
    rw [InM_c (B := u2 A1 27 13 0) (by rw [g32, b32])] at q4
    obtain ⟨n, g1, g2⟩ := h2.2.2.2.1 i j k (by unfold GT3; omega) q4
    exact ⟨n, g1, MAt_c b28.symm b29.symm (by rw [g32, b32]) e33 e34 e35 e36 g2⟩
  · obtain ⟨i, j, k, g1, g2, g3⟩ := h2.2.2.2.2 n hn
    refine ⟨i, j, k, g1.1.1, g1.1.2, ?_, by rw [InM_c (B := u2 A1 27 13 0) (by rw [g32, b32])]; exact g2, MAt_c b28.symm b29.symm (by rw [g32, b32]) e33 e34 e35 e36 g3⟩
    rw [hap]
    have := g1.2
    omega
  · rw [okf_c e28, okf_c e28]
    exact h3.2.2.1 (by decide)
  · rw [h3.2.2.2 s p hp (by omega), PosV_c e28 e29 e34 e35 e36]
  · rw [h3.1 o q2 (by omega), r2 o (by omega) q2, r1 o q2 (by omega)]
  · rw [h3.2.1 k q4 q5, h2.2.1 k q3, u2_k q3, h1.1 27 k (by decide) (by omega), u2_k q1]
  · rw [h3.2.1 6 (by decide) (by decide), h2.2.1 6 (by decide), u2_k (by decide), h1.1 27 6 (by decide) (by omega), u2_s]
set_option maxRecDepth 100000 in
set_option maxHeartbeats 4000000 in
theorem lp_X6_know (l : Launch) (A : Nat → Nat → Int32) (G : Nat → Nat → Int64) (cnt : Nat) (hc : A 27 13 = nI cnt) (hc364 : cnt ≤ 364) (hpt : ∀ p, p < 5 → A 37 p = nI (part p)) (s : Nat) (hs : s < 32) (hout : ∀ A3, PsI A A3 cnt (5 * (s + 1)) → ∀ j : Value, Go l ro0 mX6_know 39 (A3, G, PF) 59 [.ref 27, .int (nI (s + 1)), j] [] 39 (fun r M2 => r = none ∧ ∃ A3, M2 = (A3, G, PF) ∧ PsI A A3 cnt 160)) : ∀ p, p ≤ 5 → ∀ A3, PsI A A3 cnt (5 * s + p) → Go l ro0 mX6_know 39 (A3, G, PF) 67 [.ref 27, .int (nI s), .int (nI p)] [] 39 (fun r M2 => r = none ∧ ∃ A3, M2 = (A3, G, PF) ∧ PsI A A3 cnt 160) := by
  refine down 5 (fun p hp ih A3 hI => ?_)
  refine go_blk (pc2 := 69) (L2 := [.ref 27, .int (nI s), .int (nI p)]) (st2 := [.int 5, .int (nI p)]) (M2 := (A3, G, PF)) (hs2 := []) (C := True) [(.iload_n 2, 0, 0), (.iconst 5, 0, 0)] [] (by decide +kernel) rfl trivial ?_
  refine go_cmp (cnd := .ge) (off := 67) 136 (by decide +kernel) (by decide) (fun (c1 : 5 ≤ (nI p)) => ?_) (fun (c1 : ¬ 5 ≤ (nI p)) => ?_)
  · skip
    replace c1 : 5 ≤ p := (nx_le (a := 5) (b := p) rfl rfl (by omega) (by omega)).mp c1
    refine go_blk (pc2 := 139) (L2 := [.ref 27, .int ((nI s) + 1), .int (nI p)]) (st2 := []) (M2 := (A3, G, PF)) (hs2 := []) (C := True) [(.iinc 1 1, 0, 0)] [] (by decide +kernel) rfl trivial ?_
    refine go_goto (off := -80) 59 (by decide +kernel) (by decide) ?_
    exact go_as (hout A3 (by rw [show 5 * (s + 1) = 5 * s + p by omega]; exact hI) (.int (nI p))) rfl (by simp only [nI_1]) rfl
  · skip
    replace c1 : ¬ 5 ≤ p := fun zz => c1 ((nx_le (a := 5) (b := p) rfl rfl (by omega) (by omega)).mpr zz)
    refine go_blk (pc2 := 83) (L2 := [.ref 27, .int (nI s), .int (nI p)]) (st2 := [.ref 27, .int (nI s), .int ((5 * (nI s)) + (nI p)), .ref 38]) (M2 := (A3, G, PF)) (hs2 := []) (C := True) [(.aload_n 0, 0, 0), (.getfield 40, 6, 15), (.iconst 5, 0, 0), (.iload_n 1, 0, 0), (.imul, 0, 0), (.iload_n 2, 0, 0), (.iadd, 0, 0), (.iload_n 1, 0, 0), (.aload_n 0, 0, 0)] [] (by decide +kernel) rfl trivial ?_
    refine go_call (Y2 := mX6_defined) (n2 := 39) (st := [.int (nI s), .int ((5 * (nI s)) + (nI p)), .ref 38]) [.ref 27] [] ck_6_98 cwX6_defined rfl (by decide +kernel) rfl (fun h => absurd h (by decide)) (fun _ => ⟨27, rfl, by decide, rfl⟩) (Nat.le_of_ble_eq_true rfl) (Or.inl rfl) (fun _ _ _ h => h) (s_X6_defined l A3 G) (fun v M2 hp2 => ?_)
    obtain ⟨rfl, rfl⟩ := hp2
    rw [okf_c (A := A) (hI.1 28 (by decide) (by decide))]
    show Go l ro0 mX6_know 39 (A3, G, PF) 86 [.ref 27, .int (nI s), .int (nI p)] [.int (31 &&& (okf A 0 5 ^^^ (-1))), .int (nI s), .int ((5 * (nI s)) + (nI p)), .ref 38] 39 _
    refine go_blk (pc2 := 89) (L2 := [.ref 27, .int (nI s), .int (nI p)]) (st2 := [.int ((nI s) &&& ((31 &&& (okf A 0 5 ^^^ (-1))) ^^^ (-1))), .int ((5 * (nI s)) + (nI p)), .ref 38]) (M2 := (A3, G, PF)) (hs2 := []) (C := True) [(.iconst (-1), 0, 0), (.ixor, 0, 0), (.iand, 0, 0)] [] (by decide +kernel) rfl trivial ?_
    refine go_ifz (cnd := .ne) (off := 39) 128 (by decide +kernel) (by decide) (fun (c3 : ¬ ((nI s) &&& ((31 &&& (okf A 0 5 ^^^ (-1))) ^^^ (-1))) = 0) => ?_) (fun (c3 : ((nI s) &&& ((31 &&& (okf A 0 5 ^^^ (-1))) ^^^ (-1))) = 0) => ?_)
    · skip
      refine go_blk (pc2 := 133) (L2 := [.ref 27, .int (nI s), .int ((nI p) + 1)]) (st2 := []) (M2 := ((u2 A3 38 ((5 * s) + p) 0), G, PF)) (hs2 := []) (C := (((5 * (nI s)) + (nI p)) = nI ((5 * s) + p) ∧ ((5 * s) + p) < 160 ∧ (0 = 0 ∨ 0 = 1)) ∧ True) [(.iconst 0, 0, 0), (.bastore, 0, 0), (.iinc 2 1, 0, 0)] [((5 * s) + p)] (by decide +kernel) rfl ⟨⟨(by first | rfl | (simp only [nI, Int32.ofNat_add, Int32.ofNat_mul]; done) | (simp only [nI, Int32.ofNat_add, Int32.ofNat_mul]; rfl)), by omega, Or.inl rfl⟩, trivial⟩ ?_
      refine go_goto (off := -66) 67 (by decide +kernel) (by decide) ?_
      have hn : ¬ PosV A s p cnt := fun zz => by first | exact absurd zz.1 (by assumption) | exact absurd zz.2.1 (by assumption)
      have h0 : 1 ≤ 5 * s + p := by
        rcases Nat.eq_zero_or_pos (5 * s + p) with q | q
        · obtain ⟨rfl, rfl⟩ : s = 0 ∧ p = 0 := by omega
          first | exact absurd (subM0 A) (by assumption) | exact absurd (FacM0 A _) (by assumption)
        · exact q
      exact go_as (ih (by omega) _ (hI.skip (by omega) hn h0)) rfl (by simp only [nI_1]) rfl
    · skip
      refine go_blk (pc2 := 100) (L2 := [.ref 27, .int (nI s), .int (nI p)]) (st2 := [.int (A3 37 p), .int (nI s), .ref 27, .int ((5 * (nI s)) + (nI p)), .ref 38]) (M2 := (A3, G, PF)) (hs2 := []) (C := ((nI p) = nI p ∧ p < 5) ∧ True) [(.aload_n 0, 0, 0), (.iload_n 1, 0, 0), (.aload_n 0, 0, 0), (.getfield 37, 6, 14), (.iload_n 2, 0, 0), (.iaload, 0, 0)] [p] (by decide +kernel) rfl ⟨⟨rfl, by omega⟩, trivial⟩ ?_
      refine go_call (Y2 := mX6_factsFit) (n2 := 39) (st := [.int ((5 * (nI s)) + (nI p)), .ref 38]) [.ref 27] [.int (nI s), .int (A3 37 p)] ck_6_102 cwX6_factsFit rfl (by decide +kernel) rfl (fun h => absurd h (by decide)) (fun _ => ⟨27, rfl, by decide, rfl⟩) (Nat.le_of_ble_eq_true rfl) (Or.inl rfl) (fun _ _ _ h => h) (s_X6_factsFit l A3 G s hs (A3 37 p)) (fun v M2 hp4 => ?_)
      obtain ⟨rfl, rfl⟩ := hp4
      rw [show FacM A3 s (A3 37 p) = FacM A s (nI (part p)) from by unfold FacM BadM; rw [hI.1 28 (by decide) (by decide), hI.1 29 (by decide) (by decide), hI.1 37 (by decide) (by decide), hpt p (by omega)]]
      rcases Classical.em (FacM A s (nI (part p))) with hb5 | hb5
      · rw [bi_t hb5]
        show Go l ro0 mX6_know 39 (A3, G, PF) 103 [.ref 27, .int (nI s), .int (nI p)] [.int 1, .int ((5 * (nI s)) + (nI p)), .ref 38] 39 _
        refine go_ifz (cnd := .eq) (off := 25) 128 (by decide +kernel) (by decide) (fun (h : (1 : Int32) = 0) => absurd h (by decide)) (fun _ => ?_)
        refine go_blk (pc2 := 118) (L2 := [.ref 27, .int (nI s), .int (nI p)]) (st2 := [.int 0, .int 0, .int 0, .int 0, .int (A3 37 p), .int (nI s), .ref 27, .int ((5 * (nI s)) + (nI p)), .ref 38]) (M2 := (A3, G, PF)) (hs2 := []) (C := ((nI p) = nI p ∧ p < 5) ∧ True) [(.aload_n 0, 0, 0), (.iload_n 1, 0, 0), (.aload_n 0, 0, 0), (.getfield 37, 6, 14), (.iload_n 2, 0, 0), (.iaload, 0, 0), (.iconst 0, 0, 0), (.iconst 0, 0, 0), (.iconst 0, 0, 0), (.iconst 0, 0, 0)] [p] (by decide +kernel) rfl ⟨⟨rfl, by omega⟩, trivial⟩ ?_
        refine go_call (Y2 := mX6_open) (n2 := 39) (st := [.int ((5 * (nI s)) + (nI p)), .ref 38]) [.ref 27] [.int (nI s), .int (A3 37 p), .int 0, .int 0, .int 0, .int 0] ck_6_106 cwX6_open rfl (by decide +kernel) rfl (fun h => absurd h (by decide)) (fun _ => ⟨27, rfl, by decide, rfl⟩) (Nat.le_of_ble_eq_true rfl) (Or.inl rfl) (fun _ _ _ h => h) (s_X6_open l A3 G cnt (by rw [hI.2.1 13 (by decide) (by decide)]; exact hc) hc364 (nI s) (A3 37 p) 0 0 0 0) (fun v M2 hp6 => ?_)
        obtain ⟨rfl, rfl⟩ := hp6
        rw [OpM_V, okf_c (A := A) (hI.1 28 (by decide) (by decide)), okf_c (A := A) (hI.1 28 (by decide) (by decide))]
        rw [show (u2 (u2 A3 27 19 (okf A 1 5)) 27 20 (okf A 2 5)) 27 19 = okf A 1 5 from by rw [u2_k (by decide), u2_s], show (u2 (u2 A3 27 19 (okf A 1 5)) 27 20 (okf A 2 5)) 27 20 = okf A 2 5 from u2_s]
        rw [OpV_c (A := A) (A2 := (u2 (u2 A3 27 19 (okf A 1 5)) 27 20 (okf A 2 5))) (by funext z; rw [u2_o (by decide), u2_o (by decide), hI.1 34 (by decide) (by decide)]) (by funext z; rw [u2_o (by decide), u2_o (by decide), hI.1 35 (by decide) (by decide)]) (by funext z; rw [u2_o (by decide), u2_o (by decide), hI.1 36 (by decide) (by decide)]), hI.1 37 (by decide) (by decide), hpt p (by omega)]
        rcases Classical.em (OpV (okf A 1 5) (okf A 2 5) A (nI s) (nI (part p)) (fitV (okf A 1 5) (okf A 2 5) A (nI s) (nI (part p))) cnt) with hb7 | hb7
        · rw [bi_t hb7]
          show Go l ro0 mX6_know 39 ((u2 (u2 A3 27 19 (okf A 1 5)) 27 20 (okf A 2 5)), G, PF) 121 [.ref 27, .int (nI s), .int (nI p)] [.int 1, .int ((5 * (nI s)) + (nI p)), .ref 38] 39 _
          refine go_ifz (cnd := .eq) (off := 7) 128 (by decide +kernel) (by decide) (fun (h : (1 : Int32) = 0) => absurd h (by decide)) (fun _ => ?_)
          refine go_blk (pc2 := 125) (L2 := [.ref 27, .int (nI s), .int (nI p)]) (st2 := [.int 1, .int ((5 * (nI s)) + (nI p)), .ref 38]) (M2 := ((u2 (u2 A3 27 19 (okf A 1 5)) 27 20 (okf A 2 5)), G, PF)) (hs2 := []) (C := True) [(.iconst 1, 0, 0)] [] (by decide +kernel) rfl trivial ?_
          refine go_goto (off := 4) 129 (by decide +kernel) (by decide) ?_
          refine go_blk (pc2 := 133) (L2 := [.ref 27, .int (nI s), .int ((nI p) + 1)]) (st2 := []) (M2 := ((u2 (u2 (u2 A3 27 19 (okf A 1 5)) 27 20 (okf A 2 5)) 38 ((5 * s) + p) 1), G, PF)) (hs2 := []) (C := (((5 * (nI s)) + (nI p)) = nI ((5 * s) + p) ∧ ((5 * s) + p) < 160 ∧ (1 = 0 ∨ 1 = 1)) ∧ True) [(.bastore, 0, 0), (.iinc 2 1, 0, 0)] [((5 * s) + p)] (by decide +kernel) rfl ⟨⟨(by first | rfl | (simp only [nI, Int32.ofNat_add, Int32.ofNat_mul]; done) | (simp only [nI, Int32.ofNat_add, Int32.ofNat_mul]; rfl)), by omega, Or.inr rfl⟩, trivial⟩ ?_
          refine go_goto (off := -66) 67 (by decide +kernel) (by decide) ?_
          have hz := hI.add (by omega)
          rw [bi_t (show PosV A s p cnt from ⟨by assumption, by assumption, by assumption⟩)] at hz
          exact go_as (ih (by omega) _ hz) rfl (by simp only [nI_1]) rfl
        · rw [bi_f hb7]
          show Go l ro0 mX6_know 39 ((u2 (u2 A3 27 19 (okf A 1 5)) 27 20 (okf A 2 5)), G, PF) 121 [.ref 27, .int (nI s), .int (nI p)] [.int 0, .int ((5 * (nI s)) + (nI p)), .ref 38] 39 _
          refine go_ifz (cnd := .eq) (off := 7) 128 (by decide +kernel) (by decide) (fun _ => ?_) (fun (h : ¬ (0 : Int32) = 0) => absurd h (by decide))
          refine go_blk (pc2 := 133) (L2 := [.ref 27, .int (nI s), .int ((nI p) + 1)]) (st2 := []) (M2 := ((u2 (u2 (u2 A3 27 19 (okf A 1 5)) 27 20 (okf A 2 5)) 38 ((5 * s) + p) 0), G, PF)) (hs2 := []) (C := (((5 * (nI s)) + (nI p)) = nI ((5 * s) + p) ∧ ((5 * s) + p) < 160 ∧ (0 = 0 ∨ 0 = 1)) ∧ True) [(.iconst 0, 0, 0), (.bastore, 0, 0), (.iinc 2 1, 0, 0)] [((5 * s) + p)] (by decide +kernel) rfl ⟨⟨(by first | rfl | (simp only [nI, Int32.ofNat_add, Int32.ofNat_mul]; done) | (simp only [nI, Int32.ofNat_add, Int32.ofNat_mul]; rfl)), by omega, Or.inl rfl⟩, trivial⟩ ?_
          refine go_goto (off := -66) 67 (by decide +kernel) (by decide) ?_
          have hz := hI.add (by omega)
          rw [bi_f (show ¬ PosV A s p cnt from fun zz => absurd zz.2.2 (by assumption))] at hz
          exact go_as (ih (by omega) _ hz) rfl (by simp only [nI_1]) rfl
      · rw [bi_f hb5]
        show Go l ro0 mX6_know 39 (A3, G, PF) 103 [.ref 27, .int (nI s), .int (nI p)] [.int 0, .int ((5 * (nI s)) + (nI p)), .ref 38] 39 _
        refine go_ifz (cnd := .eq) (off := 25) 128 (by decide +kernel) (by decide) (fun _ => ?_) (fun (h : ¬ (0 : Int32) = 0) => absurd h (by decide))
        refine go_blk (pc2 := 133) (L2 := [.ref 27, .int (nI s), .int ((nI p) + 1)]) (st2 := []) (M2 := ((u2 A3 38 ((5 * s) + p) 0), G, PF)) (hs2 := []) (C := (((5 * (nI s)) + (nI p)) = nI ((5 * s) + p) ∧ ((5 * s) + p) < 160 ∧ (0 = 0 ∨ 0 = 1)) ∧ True) [(.iconst 0, 0, 0), (.bastore, 0, 0), (.iinc 2 1, 0, 0)] [((5 * s) + p)] (by decide +kernel) rfl ⟨⟨(by first | rfl | (simp only [nI, Int32.ofNat_add, Int32.ofNat_mul]; done) | (simp only [nI, Int32.ofNat_add, Int32.ofNat_mul]; rfl)), by omega, Or.inl rfl⟩, trivial⟩ ?_
        refine go_goto (off := -66) 67 (by decide +kernel) (by decide) ?_
        have hn : ¬ PosV A s p cnt := fun zz => by first | exact absurd zz.1 (by assumption) | exact absurd zz.2.1 (by assumption)
        have h0 : 1 ≤ 5 * s + p := by
          rcases Nat.eq_zero_or_pos (5 * s + p) with q | q
          · obtain ⟨rfl, rfl⟩ : s = 0 ∧ p = 0 := by omega
            first | exact absurd (subM0 A) (by assumption) | exact absurd (FacM0 A _) (by assumption)
          · exact q
        exact go_as (ih (by omega) _ (hI.skip (by omega) hn h0)) rfl (by simp only [nI_1]) rfl
set_option maxRecDepth 100000 in
set_option maxHeartbeats 4000000 in
theorem ls_X6_know (l : Launch) (A : Nat → Nat → Int32) (G : Nat → Nat → Int64) (cnt : Nat) (hc : A 27 13 = nI cnt) (hc364 : cnt ≤ 364) (hpt : ∀ p, p < 5 → A 37 p = nI (part p)) : ∀ s, s ≤ 32 → ∀ A3, PsI A A3 cnt (5 * s) → ∀ j : Value, Go l ro0 mX6_know 39 (A3, G, PF) 59 [.ref 27, .int (nI s), j] [] 39 (fun r M2 => r = none ∧ ∃ A3, M2 = (A3, G, PF) ∧ PsI A A3 cnt 160) := by
  refine down 32 (fun s hs ih A3 hI j => ?_)
  refine go_blk (pc2 := 62) (L2 := [.ref 27, .int (nI s), j]) (st2 := [.int 32, .int (nI s)]) (M2 := (A3, G, PF)) (hs2 := []) (C := True) [(.iload_n 1, 0, 0), (.bipush 32, 0, 0)] [] (by decide +kernel) rfl trivial ?_
  refine go_cmp (cnd := .ge) (off := 80) 142 (by decide +kernel) (by decide) (fun (c1 : 32 ≤ (nI s)) => ?_) (fun (c1 : ¬ 32 ≤ (nI s)) => ?_)
  · skip
    replace c1 : 32 ≤ s := (nx_le (a := 32) (b := s) rfl rfl (by omega) (by omega)).mp c1
    exact go_retv (by decide +kernel) rfl (⟨rfl, A3, rfl, by rw [show 160 = 5 * s by omega]; exact hI⟩)
  · skip
    replace c1 : ¬ 32 ≤ s := fun zz => c1 ((nx_le (a := 32) (b := s) rfl rfl (by omega) (by omega)).mpr zz)
    refine go_blk (pc2 := 67) (L2 := [.ref 27, .int (nI s), .int 0]) (st2 := []) (M2 := (A3, G, PF)) (hs2 := []) (C := True) [(.iconst 0, 0, 0), (.istore_n 2, 0, 0)] [] (by decide +kernel) rfl trivial ?_
    exact lp_X6_know l A G cnt hc hc364 hpt s (by omega) (fun A4 h4 j4 => ih (by omega) A4 h4 j4) 0 (by omega) A3 hI
set_option maxRecDepth 100000 in
set_option maxHeartbeats 4000000 in
theorem lj_X6_know (l : Launch) (A : Nat → Nat → Int32) (G : Nat → Nat → Int64) (B0 : Nat → Nat → Int32) (N : Nat) (hN : N ≤ 14) (hB8 : B0 27 8 = nI N) (hBp : ∀ p, p < 5 → B0 37 p = nI (part p)) (i : Nat) (hi : i < 14) (hiN : i < N) (hout : ∀ A2 cnt, MI (GT3 (i + 1) 0 0) B0 A2 cnt → cnt ≤ tet i + tri i → ∀ j : Value, Go l ro0 mX6_know 39 (A2, G, PF) 24 [.ref 27, .int (nI (i + 1)), j] [] 39 (fun r M2 => r = none ∧ ∃ A2 A3 cnt, M2 = (A3, G, PF) ∧ cnt ≤ 364 ∧ MI (GT3 N 0 0) B0 A2 cnt ∧ PsI A2 A3 cnt 160)) : ∀ j, j ≤ i → ∀ A2 cnt, MI (GT3 i j 0) B0 A2 cnt → cnt ≤ tet i + tri j → Go l ro0 mX6_know 39 (A2, G, PF) 34 [.ref 27, .int (nI i), .int (nI j)] [] 39 (fun r M2 => r = none ∧ ∃ A2 A3 cnt, M2 = (A3, G, PF) ∧ cnt ≤ 364 ∧ MI (GT3 N 0 0) B0 A2 cnt ∧ PsI A2 A3 cnt 160) := by
  refine down i (fun j hj ih A2 cnt hM hb => ?_)
  refine go_blk (pc2 := 36) (L2 := [.ref 27, .int (nI i), .int (nI j)]) (st2 := [.int (nI i), .int (nI j)]) (M2 := (A2, G, PF)) (hs2 := []) (C := True) [(.iload_n 2, 0, 0), (.iload_n 1, 0, 0)] [] (by decide +kernel) rfl trivial ?_
  refine go_cmp (cnd := .ge) (off := 15) 51 (by decide +kernel) (by decide) (fun (c1 : (nI i) ≤ (nI j)) => ?_) (fun (c1 : ¬ (nI i) ≤ (nI j)) => ?_)
  · skip
    replace c1 : i ≤ j := (nx_le (a := i) (b := j) rfl rfl (by omega) (by omega)).mp c1
    refine go_blk (pc2 := 54) (L2 := [.ref 27, .int ((nI i) + 1), .int (nI j)]) (st2 := []) (M2 := (A2, G, PF)) (hs2 := []) (C := True) [(.iinc 1 1, 0, 0)] [] (by decide +kernel) rfl trivial ?_
    refine go_goto (off := -30) 24 (by decide +kernel) (by decide) ?_
    exact go_as (hout A2 cnt (hM.congr (fun i2 j2 k2 => by unfold GT3; omega)) (by obtain rfl : j = i := (by omega); exact hb) (.int (nI j))) rfl (by simp only [nI_1]) rfl
  · skip
    replace c1 : ¬ i ≤ j := fun zz => c1 ((nx_le (a := i) (b := j) rfl rfl (by omega) (by omega)).mpr zz)
    refine go_blk (pc2 := 42) (L2 := [.ref 27, .int (nI i), .int (nI j)]) (st2 := [.int (nI j), .int (nI i), .ref 27]) (M2 := (A2, G, PF)) (hs2 := []) (C := True) [(.aload_n 0, 0, 0), (.iload_n 1, 0, 0), (.iload_n 2, 0, 0)] [] (by decide +kernel) rfl trivial ?_
    refine go_call (Y2 := mX6_meetAll) (n2 := 39) (st := []) [.ref 27] [.int (nI i), .int (nI j)] ck_6_94 cwX6_meetAll rfl (by decide +kernel) rfl (fun h => absurd h (by decide)) (fun _ => ⟨27, rfl, by decide, rfl⟩) (Nat.le_of_ble_eq_true rfl) (Or.inl rfl) (fun _ _ _ h => h) (s_X6_meetAll l A2 G B0 i j hi (by omega) cnt hM hb) (fun v M2 hp2 => ?_)
    obtain ⟨rfl, A3, cnt3, rfl, hM3, hb3⟩ := hp2
    show Go l ro0 mX6_know 39 (A3, G, PF) 45 [.ref 27, .int (nI i), .int (nI j)] [] 39 _
    refine go_blk (pc2 := 48) (L2 := [.ref 27, .int (nI i), .int ((nI j) + 1)]) (st2 := []) (M2 := (A3, G, PF)) (hs2 := []) (C := True) [(.iinc 2 1, 0, 0)] [] (by decide +kernel) rfl trivial ?_
    refine go_goto (off := -14) 34 (by decide +kernel) (by decide) ?_
    exact go_as (ih (by omega) A3 cnt3 hM3 hb3) rfl (by simp only [nI_1]) rfl
set_option maxRecDepth 100000 in
set_option maxHeartbeats 4000000 in
theorem li_X6_know (l : Launch) (A : Nat → Nat → Int32) (G : Nat → Nat → Int64) (B0 : Nat → Nat → Int32) (N : Nat) (hN : N ≤ 14) (hB8 : B0 27 8 = nI N) (hBp : ∀ p, p < 5 → B0 37 p = nI (part p)) : ∀ i, i ≤ N → ∀ A2 cnt, MI (GT3 i 0 0) B0 A2 cnt → cnt ≤ tet i → ∀ j : Value, Go l ro0 mX6_know 39 (A2, G, PF) 24 [.ref 27, .int (nI i), j] [] 39 (fun r M2 => r = none ∧ ∃ A2 A3 cnt, M2 = (A3, G, PF) ∧ cnt ≤ 364 ∧ MI (GT3 N 0 0) B0 A2 cnt ∧ PsI A2 A3 cnt 160) := by
  refine down N (fun i hi ih A2 cnt hM hb j => ?_)
  have h8 : A2 27 8 = nI N := by rw [hM.2.1 8 (by decide)]; exact hB8
  have hc364 : cnt ≤ 364 := Nat.le_trans hb (Nat.le_trans (tet_mono (show i ≤ 14 by omega)) (by decide))
  refine go_blk (pc2 := 29) (L2 := [.ref 27, .int (nI i), j]) (st2 := [.int (A2 27 8), .int (nI i)]) (M2 := (A2, G, PF)) (hs2 := []) (C := True) [(.iload_n 1, 0, 0), (.aload_n 0, 0, 0), (.getfield 70, 6, 8)] [] (by decide +kernel) rfl trivial ?_
  refine go_cmp (cnd := .ge) (off := 28) 57 (by decide +kernel) (by decide) (fun (c1 : (A2 27 8) ≤ (nI i)) => ?_) (fun (c1 : ¬ (A2 27 8) ≤ (nI i)) => ?_)
  · skip
    replace c1 : N ≤ i := (nx_le (a := N) (b := i) h8 rfl (by omega) (by omega)).mp c1
    refine go_blk (pc2 := 59) (L2 := [.ref 27, .int 0, j]) (st2 := []) (M2 := (A2, G, PF)) (hs2 := []) (C := True) [(.iconst 0, 0, 0), (.istore_n 1, 0, 0)] [] (by decide +kernel) rfl trivial ?_
    refine Go.mono (ls_X6_know l A2 G cnt hM.2.2.1 hc364 (fun p hp => by rw [hM.1 37 (by omega) (by decide)]; exact hBp p hp) 0 (by omega) A2 ⟨fun _ _ _ => rfl, fun _ _ _ => rfl, fun zz => absurd zz (by omega), fun s p _ zz => absurd zz (by omega)⟩ _) ?_
    rintro v3 M3 ⟨q1, A3, q2, q3⟩
    exact ⟨q1, A2, A3, cnt, q2, hc364, by obtain rfl : i = N := (by omega); exact hM, q3⟩
  · skip
    replace c1 : ¬ N ≤ i := fun zz => c1 ((nx_le (a := N) (b := i) h8 rfl (by omega) (by omega)).mpr zz)
    refine go_blk (pc2 := 34) (L2 := [.ref 27, .int (nI i), .int 0]) (st2 := []) (M2 := (A2, G, PF)) (hs2 := []) (C := True) [(.iconst 0, 0, 0), (.istore_n 2, 0, 0)] [] (by decide +kernel) rfl trivial ?_
    exact lj_X6_know l A G B0 N hN hB8 hBp i (by omega) (by omega) (fun A3 c3 h3 h4 j4 => ih (by omega) A3 c3 h3 h4 j4) 0 (by omega) A2 cnt hM hb
set_option maxRecDepth 100000 in
set_option maxHeartbeats 4000000 in
theorem s_X6_know (l : Launch) (A : Nat → Nat → Int32) (G : Nat → Nat → Int64) (hpt : ∀ p, p < 5 → A 37 p = nI (part p)) (hkn : ¬ A 27 6 = 0 → A 27 6 = 1 ∧ ∃ cnt, MCache A cnt) : Sem l mX6_know [.ref 27] 39 (A, G, PF) 39 (fun r M2 => r = none ∧ ∃ A2 cnt, M2 = (A2, G, PF) ∧ MCache A2 cnt ∧ KnF A A2 ∧ A2 27 6 = 1) := by
  refine sem_of_go (by decide) rfl (by decide) (by decide) rfl (Nat.le_of_ble_eq_true rfl) ?_
  show Go l ro0 mX6_know 39 (A, G, PF) 0 [.ref 27, .null, .null] [] 39 (fun r M2 => r = none ∧ ∃ A2 cnt, M2 = (A2, G, PF) ∧ MCache A2 cnt ∧ KnF A A2 ∧ A2 27 6 = 1)
  refine go_blk (pc2 := 4) (L2 := [.ref 27, .null, .null]) (st2 := [.int (A 27 6)]) (M2 := (A, G, PF)) (hs2 := []) (C := True) [(.aload_n 0, 0, 0), (.getfield 55, 6, 6)] [] (by decide +kernel) rfl trivial ?_
  refine go_ifz (cnd := .eq) (off := 4) 8 (by decide +kernel) (by decide) (fun (c1 : (A 27 6) = 0) => ?_) (fun (c1 : ¬ (A 27 6) = 0) => ?_)
  · skip
    refine go_blk (pc2 := 14) (L2 := [.ref 27, .null, .null]) (st2 := [.ref 27]) (M2 := ((u2 A 27 6 1), G, PF)) (hs2 := []) (C := (1 = 0 ∨ 1 = 1) ∧ True) [(.aload_n 0, 0, 0), (.iconst 1, 0, 0), (.putfield 55, 6, 6), (.aload_n 0, 0, 0)] [] (by decide +kernel) rfl ⟨Or.inr rfl, trivial⟩ ?_
    refine go_call (Y2 := mX6_allPlanes) (n2 := 39) (st := []) [.ref 27] [] ck_6_91 cwX6_allPlanes rfl (by decide +kernel) rfl (fun h => absurd h (by decide)) (fun _ => ⟨27, rfl, by decide, rfl⟩) (Nat.le_of_ble_eq_true rfl) (Or.inl rfl) (fun _ _ _ h => h) (s_X6_allPlanes l (u2 A 27 6 1) G) (fun v M2 hp2 => ?_)
    obtain ⟨rfl, A1, rfl, hP1⟩ := hp2
    show Go l ro0 mX6_know 39 (A1, G, PF) 17 [.ref 27, .null, .null] [] 39 _
    refine go_blk (pc2 := 24) (L2 := [.ref 27, .int 0, .null]) (st2 := []) (M2 := ((u2 A1 27 13 0), G, PF)) (hs2 := []) (C := True) [(.aload_n 0, 0, 0), (.iconst 0, 0, 0), (.putfield 84, 6, 13), (.iconst 0, 0, 0), (.istore_n 1, 0, 0)] [] (by decide +kernel) rfl trivial ?_
    refine Go.mono (li_X6_know l A G (u2 A1 27 13 0) (apl (u2 A 27 6 1) 5).2 (apl_le _ 5) (by rw [u2_k (by decide)]; exact hP1.2.1) (fun p hp => by rw [u2_o (by decide), hP1.1 37 p (by decide) (by omega), u2_o (by decide)]; exact hpt p hp) 0 (by omega) (u2 A1 27 13 0) 0 ⟨fun _ _ _ => rfl, fun _ _ => rfl, u2_s, fun i j k zz => absurd zz (by unfold GT3; omega), fun n zz => absurd zz (by omega)⟩ (by decide) _) ?_
    rintro v3 M3 ⟨q1, A2, A3, cnt, q2, q3, q4, q5⟩
    exact ⟨q1, A3, cnt, q2, knowed hP1 q4 q3 q5⟩
  · skip
    exact go_retv (by decide +kernel) rfl (⟨rfl, A, (hkn (by assumption)).2.choose, rfl, (hkn (by assumption)).2.choose_spec, KnF.rf A, (hkn (by assumption)).1⟩)
set_option maxRecDepth 100000 in
set_option maxHeartbeats 4000000 in
theorem s_X6_knowK (l : Launch) (A : Nat → Nat → Int32) (G : Nat → Nat → Int64) (hk1 : A 27 6 = 1) : Sem l mX6_know [.ref 27] 39 (A, G, PF) 39 (pm (A, G, PF)) := by
  refine sem_of_go (by decide) rfl (by decide) (by decide) rfl (Nat.le_of_ble_eq_true rfl) ?_
  show Go l ro0 mX6_know 39 (A, G, PF) 0 [.ref 27, .null, .null] [] 39 (pm (A, G, PF))
  refine go_blk (pc2 := 4) (L2 := [.ref 27, .null, .null]) (st2 := [.int (A 27 6)]) (M2 := (A, G, PF)) (hs2 := []) (C := True) [(.aload_n 0, 0, 0), (.getfield 55, 6, 6)] [] (by decide +kernel) rfl trivial ?_
  refine go_ifz (cnd := .eq) (off := 4) 8 (by decide +kernel) (by decide) (fun (h : (A 27 6) = 0) => absurd h (by rw [hk1]; decide)) (fun _ => ?_)
  exact go_retv (by decide +kernel) rfl (⟨rfl, rfl⟩)
