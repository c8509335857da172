def Dfd (dm : Nat) (x : Int32) : Prop := ∃ m, m < 10 ∧ x = nI m ∧ dm.testBit (m / 2) = true
theorem ix10 {x : Int32} (h1 : ¬ x < 0) (h2 : ¬ (10 : Int32) ≤ x) : ∃ m, m < 10 ∧ x = nI m := by
  rcases pk_ix x (n := 10) (by decide) with h | h | h
  · exact absurd h h1
  · exact absurd h h2
  · exact h
theorem ix5 {x : Int32} (h : 0 ≤ x ∧ x < 5) : ∃ m, m < 5 ∧ x = nI m := by
  rcases pk_ix x (n := 5) (by decide) with q | q | q
  · exact absurd q (Int32.not_lt.mpr h.1)
  · exact absurd h.2 (Int32.not_lt.mpr q)
  · exact q
theorem ix3 {x : Int32} (h : 0 ≤ x ∧ x < 3) : ∃ m, m < 3 ∧ x = nI m := by
  rcases pk_ix x (n := 3) (by decide) with q | q | q
  · exact absurd q (Int32.not_lt.mpr h.1)
  · exact absurd h.2 (Int32.not_lt.mpr q)
  · exact q
theorem Dfd_no {dm : Nat} {x : Int32} (h : x < 0 ∨ (10 : Int32) ≤ x) : ¬ Dfd dm x := by
  rintro ⟨m, hm, rfl, -⟩
  rcases h with h | h
  · exact nI_pos (by omega) h
  · exact nI_ge hm (by decide) h
theorem Dfd_nI {dm m : Nat} (hm : m < 10) : Dfd dm (nI m) ↔ dm.testBit (m / 2) = true := by
  constructor
  · rintro ⟨m2, h2, e, h3⟩
    rw [nI_inj (by omega) (by omega) e]
    exact h3
  · exact fun h => ⟨m, hm, rfl, h⟩
def dlin (A : Nat → Nat → Int32) (kk : Nat) (a b c d e : Int32) : Nat → Nat → Int32 := u2 (u2 (u2 (u2 (u2 (u2 A 3 kk a) 4 kk b) 5 kk c) 6 kk d) 2 kk (if e = 0 then 1 else 2)) 1 7 (A 1 7 ||| (1 <<< (nI kk &&& 31)))
def dfac (A : Nat → Nat → Int32) (kk : Nat) (i j : Int32) : Nat → Nat → Int32 := u2 (u2 (u2 (u2 (u2 (u2 (u2 (u2 A 3 kk 0) 4 kk 0) 5 kk 0) 6 kk 0) 2 kk 3) 7 kk i) 8 kk j) 1 7 (A 1 7 ||| (1 <<< (nI kk &&& 31)))
def LinOk (k a b c d : Int32) : Prop := (0 ≤ k ∧ k < 5) ∧ (f9 a ∧ f9 b ∧ f9 c) ∧ f99 d
def FacOk (k i j : Int32) : Prop := (0 ≤ k ∧ k < 5) ∧ (0 ≤ i ∧ i < 3) ∧ (0 ≤ j ∧ j < 3)
def ClOk (dm : Nat) (p q r : Int32) : Prop := ¬ (q = -1 ∧ ¬ r = -1) ∧ Dfd dm p ∧ (q = -1 ∨ Dfd dm q) ∧ (r = -1 ∨ Dfd dm r)
def KI (A : Nat → Nat → Int32) (dm ncl : Nat) : Prop := FOk A ∧ LitOk A ∧ A 1 7 = nI dm ∧ dm < 32 ∧ A 9 2 = nI ncl ∧ ncl ≤ 8
def CornI (A : Nat → Nat → Int32) (cnt : Nat) : Prop := (∀ p q r, p < q → q < r → r < 14 → InB A p q r → ∃ n, n < cnt ∧ AtC A A n p q r) ∧ ∀ n, n < cnt → ∃ p q r, p < q ∧ q < r ∧ r < 14 ∧ InB A p q r ∧ AtC A A n p q r
def CacheI (A : Nat → Nat → Int32) (cnt : Nat) : Prop := cnt ≤ 364 ∧ A 12 9 = nI cnt ∧ (∀ k, k < 5 → A 13 k = A 3 k ∧ A 14 k = A 4 k ∧ A 15 k = A 5 k ∧ A 16 k = A 6 k) ∧ CornI A cnt ∧ ∀ s p, s < 32 → p < 5 → A 24 (s * 5 + p) = ndc A s p ∧ A 25 (s * 5 + p) = sgc A s p ∧ A 23 (s * 5 + p) = bi (Opn A s p cnt)
/-- what refresh leaves as it was -/
def RfF (A A2 : Nat → Nat → Int32) : Prop := (∀ o, (o < 12 ∨ 25 < o) → o ≠ 0 → A2 o = A o) ∧ (∀ k, k ≠ 5 → A2 0 k = A 0 k) ∧ (∀ k, k ≠ 9 → A2 12 k = A 12 k) ∧ ∀ p, 5 ≤ p → A2 13 p = A 13 p ∧ A2 14 p = A 14 p ∧ A2 15 p = A 15 p ∧ A2 16 p = A 16 p
def Z5 (A A2 : Nat → Nat → Int32) : Prop := A2 0 5 = 0 ∧ (A 0 5 = 0 → A2 = A)
theorem RfF.rf (A : Nat → Nat → Int32) : RfF A A := ⟨fun _ _ _ => rfl, fun _ _ => rfl, fun _ _ => rfl, fun _ _ => ⟨rfl, rfl, rfl, rfl⟩⟩
theorem KI.rf {A A2 : Nat → Nat → Int32} {dm ncl : Nat} (h : KI A dm ncl) (hr : RfF A A2) : KI A2 dm ncl := by
  obtain ⟨h1, h2, h3, h4, h5, h6⟩ := h
  have e := fun o ho ho2 => hr.1 o ho ho2
  refine ⟨FOk_c (e 2 (by decide) (by decide)) (e 7 (by decide) (by decide)) (e 8 (by decide) (by decide)) h1, ?_, by rw [e 1 (by decide) (by decide)]; exact h3, h4, by rw [e 9 (by decide) (by decide)]; exact h5, h6⟩
  simpa only [LitOk, lit, e 10 (by decide) (by decide)] using h2
theorem cpy_in (A : Nat → Nat → Int32) : ∀ n k, k < n → cpy A n 13 k = A 3 k ∧ cpy A n 14 k = A 4 k ∧ cpy A n 15 k = A 5 k ∧ cpy A n 16 k = A 6 k := by
  intro n
  induction n with
  | zero => intro k h; omega
  | succ n ih =>
    intro k h
    by_cases e : k = n
    · subst e
      simp [cpy, u2]
    · have := ih k (by omega)
      simp only [cpy]
      simp [u2, e, this]
theorem cpy_out (A : Nat → Nat → Int32) : ∀ n k, n ≤ k → cpy A n 13 k = A 13 k ∧ cpy A n 14 k = A 14 k ∧ cpy A n 15 k = A 15 k ∧ cpy A n 16 k = A 16 k := by
  intro n
  induction n with
  | zero => intro k _; exact ⟨rfl, rfl, rfl, rfl⟩
  | succ n ih =>
    intro k h
    have := ih k (by omega)
    have e : k ≠ n := by omega
    simp only [cpy]
    simp [u2, e, this]
theorem refreshed {A A2 A3 : Nat → Nat → Int32} {cnt : Nat} (hstl : ¬ A 0 5 = 0) (h364 : cnt ≤ 364) (h : CI (LT3 14 0 0) (u2 (cpy A 5) 12 9 0) A2 cnt) (h2 : CellI A2 A3 cnt 160) : CacheI (u2 A3 0 5 0) cnt ∧ RfF A (u2 A3 0 5 0) ∧ Z5 A (u2 A3 0 5 0) := by
  have e3 : ∀ o, o ≠ 0 → o ≠ 23 → o ≠ 24 → o ≠ 25 → u2 A3 0 5 0 o = A2 o := fun o q1 q2 q3 q4 => by
    rw [← h2.1 o q2 q3 q4]
    funext k
    exact u2_o q1
  have e2 : ∀ o, (o < 17 ∨ 21 < o) → o ≠ 12 → A2 o = cpy A 5 o := fun o q1 q2 => by
    rw [h.1 o q1 q2]
    funext k
    exact u2_o q2
  have hr : ∀ p q r, (InB (u2 A3 0 5 0) p q r ↔ InB (u2 (cpy A 5) 12 9 0) p q r) := fun p q r => by
    have e := (h.rows p q r).2.1
    rw [← e]
    unfold InB cx cy cz cw D0
    rw [e3 13 (by decide) (by decide) (by decide) (by decide), e3 14 (by decide) (by decide) (by decide) (by decide), e3 15 (by decide) (by decide) (by decide) (by decide), e3 16 (by decide) (by decide) (by decide) (by decide)]
  have hat : ∀ n p q r, AtC (u2 (cpy A 5) 12 9 0) A2 n p q r → AtC (u2 A3 0 5 0) (u2 A3 0 5 0) n p q r := fun n p q r hh => by
    obtain ⟨⟨-, x1, x2, x3, x4⟩, -, xf⟩ := h.rows p q r
    have g13 := e3 13 (by decide) (by decide) (by decide) (by decide)
    have g14 := e3 14 (by decide) (by decide) (by decide) (by decide)
    have g15 := e3 15 (by decide) (by decide) (by decide) (by decide)
    have g16 := e3 16 (by decide) (by decide) (by decide) (by decide)
    have y1 : cx (u2 A3 0 5 0) p q r = cx A2 p q r := by unfold cx D0; rw [g13, g14, g15, g16]
    have y2 : cy (u2 A3 0 5 0) p q r = cy A2 p q r := by unfold cy D0; rw [g13, g14, g15, g16]
    have y3 : cz (u2 A3 0 5 0) p q r = cz A2 p q r := by unfold cz D0; rw [g13, g14, g15, g16]
    have y4 : cw (u2 A3 0 5 0) p q r = cw A2 p q r := by unfold cw D0; rw [g13, g14, g15]
    obtain ⟨a1, a2, a3, a4, a5⟩ := hh
    refine ⟨?_, ?_, ?_, ?_, ?_⟩
    · rw [e3 17 (by decide) (by decide) (by decide) (by decide), y1, x1]; exact a1
    · rw [e3 18 (by decide) (by decide) (by decide) (by decide), y2, x2]; exact a2
    · rw [e3 19 (by decide) (by decide) (by decide) (by decide), y3, x3]; exact a3
    · rw [e3 20 (by decide) (by decide) (by decide) (by decide), y4, x4]; exact a4
    · rw [e3 21 (by decide) (by decide) (by decide) (by decide), y1, y2, y3, y4, fsd_c g13 g14 g15 g16, xf, x1, x2, x3, x4]; exact a5
  have h12 : u2 A3 0 5 0 12 = A2 12 := e3 12 (by decide) (by decide) (by decide) (by decide)
  refine ⟨⟨h364, by rw [h12]; exact h.2.2.1, fun k hk => ?_, ⟨fun p q r h1 h3 h4 hi => ?_, fun n hn => ?_⟩, fun s p hs hp => ?_⟩, ⟨fun o ho ho2 => ?_, fun k hk => ?_, fun k hk => ?_, fun p hp => ?_⟩, u2_s, fun z => absurd z hstl⟩
  · have := cpy_in A 5 k hk
    rw [e3 13 (by decide) (by decide) (by decide) (by decide), e3 14 (by decide) (by decide) (by decide) (by decide), e3 15 (by decide) (by decide) (by decide) (by decide), e3 16 (by decide) (by decide) (by decide) (by decide), e3 3 (by decide) (by decide) (by decide) (by decide), e3 4 (by decide) (by decide) (by decide) (by decide), e3 5 (by decide) (by decide) (by decide) (by decide), e3 6 (by decide) (by decide) (by decide) (by decide)]
    rw [e2 13 (by decide) (by decide), e2 14 (by decide) (by decide), e2 15 (by decide) (by decide), e2 16 (by decide) (by decide), e2 3 (by decide) (by decide), e2 4 (by decide) (by decide), e2 5 (by decide) (by decide), e2 6 (by decide) (by decide), cpy_o (o := 3) (by decide), cpy_o (o := 4) (by decide), cpy_o (o := 5) (by decide), cpy_o (o := 6) (by decide)]
    exact this
  · obtain ⟨n, g1, g2⟩ := h.2.2.2.1 p q r (by unfold LT3; omega) ((hr p q r).mp hi)
    exact ⟨n, g1, hat n p q r g2⟩
  · obtain ⟨p, q, r, g1, g2, g3⟩ := h.2.2.2.2 n hn
    exact ⟨p, q, r, g1.1.1, g1.1.2.1, g1.1.2.2, (hr p q r).mpr g2, hat n p q r g3⟩
  · obtain ⟨q1, q2, q3⟩ := h2.2 s p hp (by omega)
    have f2 := e3 2 (by decide) (by decide) (by decide) (by decide)
    have n1 : ndc (u2 A3 0 5 0) s p = ndc A2 s p := by unfold ndc; rw [snd_c f2]
    have n2 : sgc (u2 A3 0 5 0) s p = sgc A2 s p := by unfold sgc; rw [ssg_c f2]
    have n3 : Opn (u2 A3 0 5 0) s p cnt = Opn A2 s p cnt := by
      unfold Opn
      rw [n1, n2, HasF_c f2 (e3 7 (by decide) (by decide) (by decide) (by decide)) (e3 8 (by decide) (by decide) (by decide) (by decide)), HavP_c (e3 21 (by decide) (by decide) (by decide) (by decide))]
    rw [n1, n2, n3, u2_o (by decide), u2_o (by decide), u2_o (by decide)]
    exact ⟨q1, q2, q3⟩
  · rw [e3 o ho2 (by omega) (by omega) (by omega), e2 o (by omega) (by omega), cpy_o (by omega)]
  · rw [u2_k hk, h2.1 0 (by decide) (by decide) (by decide), e2 0 (by decide) (by decide), cpy_o (by decide)]
  · rw [h12, h.2.1 k hk, u2_k hk, cpy_o (by decide)]
  · have := cpy_out A 5 p hp
    rw [e3 13 (by decide) (by decide) (by decide) (by decide), e3 14 (by decide) (by decide) (by decide) (by decide), e3 15 (by decide) (by decide) (by decide) (by decide), e3 16 (by decide) (by decide) (by decide) (by decide), e2 13 (by decide) (by decide), e2 14 (by decide) (by decide), e2 15 (by decide) (by decide), e2 16 (by decide) (by decide)]
    exact this
theorem sub_ok : ∀ s, s < 32 → ∀ d, d < 32 → ((nI s &&& (nI d ^^^ (-1))) = 0 ↔ s &&& d = s) := by decide +kernel
def Wd (A : Nat → Nat → Int32) (dm ncl s : Nat) : Prop := s &&& dm = s ∧ (∃ p, p < 5 ∧ ¬ A 23 (s * 5 + p) = 0) ∧ SatC A s ncl
set_option maxRecDepth 100000 in
set_option maxHeartbeats 4000000 in
theorem s_X5_isDefined (l : Launch) (A : Nat → Nat → Int32) (G : Nat → Nat → Int64) (dm : Nat) (hdm : A 1 7 = nI dm) (hdm32 : dm < 32) (x : Int32) : Sem l mX5_isDefined [.ref 0, .int x] 27 (A, G, PF) 27 (pv (bi (Dfd dm x)) (A, G, PF)) := by
  refine sem_of_go (by decide) rfl (by decide) (by decide) rfl (Nat.le_of_ble_eq_true rfl) ?_
  show Go l ro0 mX5_isDefined 27 (A, G, PF) 0 [.ref 0, .int x] [] 27 (pv (bi (Dfd dm x)) (A, G, PF))
  refine go_blk (pc2 := 1) (L2 := [.ref 0, .int x]) (st2 := [.int x]) (M2 := (A, G, PF)) (hs2 := []) (C := True) [(.iload_n 1, 0, 0)] [] (by decide +kernel) rfl trivial ?_
  refine go_ifz (cnd := .lt) (off := 30) 31 (by decide +kernel) (by decide) (fun (c1 : x < 0) => ?_) (fun (c1 : ¬ x < 0) => ?_)
  · skip
    refine go_blk (pc2 := 32) (L2 := [.ref 0, .int x]) (st2 := [.int 0]) (M2 := (A, G, PF)) (hs2 := []) (C := True) [(.iconst 0, 0, 0)] [] (by decide +kernel) rfl trivial ?_
    exact go_retz (by decide +kernel) rfl (Or.inl rfl) (pv0 (by first | exact Dfd_no (Or.inl (by assumption)) | exact Dfd_no (Or.inr (by assumption)) | (rw [hxm, Dfd_nI hm]; assumption)))
  · skip
    refine go_blk (pc2 := 7) (L2 := [.ref 0, .int x]) (st2 := [.int 10, .int x]) (M2 := (A, G, PF)) (hs2 := []) (C := True) [(.iload_n 1, 0, 0), (.bipush 10, 0, 0)] [] (by decide +kernel) rfl trivial ?_
    refine go_cmp (cnd := .ge) (off := 24) 31 (by decide +kernel) (by decide) (fun (c2 : 10 ≤ x) => ?_) (fun (c2 : ¬ 10 ≤ x) => ?_)
    · skip
      refine go_blk (pc2 := 32) (L2 := [.ref 0, .int x]) (st2 := [.int 0]) (M2 := (A, G, PF)) (hs2 := []) (C := True) [(.iconst 0, 0, 0)] [] (by decide +kernel) rfl trivial ?_
      exact go_retz (by decide +kernel) rfl (Or.inl rfl) (pv0 (by first | exact Dfd_no (Or.inl (by assumption)) | exact Dfd_no (Or.inr (by assumption)) | (rw [hxm, Dfd_nI hm]; assumption)))
    · skip
      obtain ⟨m, hm, hxm⟩ := ix10 (by assumption) c2
      refine go_blk (pc2 := 14) (L2 := [.ref 0, .int x]) (st2 := [.ref 1]) (M2 := (A, G, PF)) (hs2 := []) (C := True) [(.aload_n 0, 0, 0), (.getfield 12, 5, 0)] [] (by decide +kernel) rfl trivial ?_
      refine go_call (Y2 := mX0_defined) (n2 := 27) (st := []) [.ref 1] [] ck_5_106 cwX0_defined rfl (by decide +kernel) rfl (fun h => absurd h (by decide)) (fun _ => ⟨1, rfl, by decide, rfl⟩) (Nat.le_of_ble_eq_true rfl) (Or.inl rfl) (fun _ _ _ h => h) (s_X0_defined l A G) (fun v M2 hp3 => ?_)
      obtain ⟨rfl, rfl⟩ := hp3
      show Go l ro0 mX5_isDefined 27 (A, G, PF) 17 [.ref 0, .int x] [.int (A 1 7)] 27 _
      refine go_blk (pc2 := 24) (L2 := [.ref 0, .int x]) (st2 := [.int 1, .int (((A 1 7) >>> ((x >>> (1 &&& 31)) &&& 31)) &&& 1)]) (M2 := (A, G, PF)) (hs2 := []) (C := True) [(.iload_n 1, 0, 0), (.iconst 1, 0, 0), (.ishr, 0, 0), (.ishr, 0, 0), (.iconst 1, 0, 0), (.iand, 0, 0), (.iconst 1, 0, 0)] [] (by decide +kernel) rfl trivial ?_
      refine go_cmp (cnd := .ne) (off := 7) 31 (by decide +kernel) (by decide) (fun (c4 : ¬ (((A 1 7) >>> ((x >>> (1 &&& 31)) &&& 31)) &&& 1) = 1) => ?_) (fun (c4 : (((A 1 7) >>> ((x >>> (1 &&& 31)) &&& 31)) &&& 1) = 1) => ?_)
      · skip
        rw [hdm, hxm, (lit_h m hm).1, bitS1 hdm32 (by omega)] at c4
        refine go_blk (pc2 := 32) (L2 := [.ref 0, .int x]) (st2 := [.int 0]) (M2 := (A, G, PF)) (hs2 := []) (C := True) [(.iconst 0, 0, 0)] [] (by decide +kernel) rfl trivial ?_
        exact go_retz (by decide +kernel) rfl (Or.inl rfl) (pv0 (by first | exact Dfd_no (Or.inl (by assumption)) | exact Dfd_no (Or.inr (by assumption)) | (rw [hxm, Dfd_nI hm]; assumption)))
      · skip
        rw [hdm, hxm, (lit_h m hm).1, bitS1 hdm32 (by omega)] at c4
        refine go_blk (pc2 := 28) (L2 := [.ref 0, .int x]) (st2 := [.int 1]) (M2 := (A, G, PF)) (hs2 := []) (C := True) [(.iconst 1, 0, 0)] [] (by decide +kernel) rfl trivial ?_
        refine go_goto (off := 4) 32 (by decide +kernel) (by decide) ?_
        exact go_retz (by decide +kernel) rfl (Or.inr rfl) (pv1 (by rw [hxm, Dfd_nI hm]; assumption))
set_option maxRecDepth 100000 in
set_option maxHeartbeats 4000000 in
theorem s_X5_isDefinedOrAbsent (l : Launch) (A : Nat → Nat → Int32) (G : Nat → Nat → Int64) (dm : Nat) (hdm : A 1 7 = nI dm) (hdm32 : dm < 32) (x : Int32) : Sem l mX5_isDefinedOrAbsent [.ref 0, .int x] 27 (A, G, PF) 27 (pv (bi (x = -1 ∨ Dfd dm x)) (A, G, PF)) := by
  refine sem_of_go (by decide) rfl (by decide) (by decide) rfl (Nat.le_of_ble_eq_true rfl) ?_
  show Go l ro0 mX5_isDefinedOrAbsent 27 (A, G, PF) 0 [.ref 0, .int x] [] 27 (pv (bi (x = -1 ∨ Dfd dm x)) (A, G, PF))
  refine go_blk (pc2 := 2) (L2 := [.ref 0, .int x]) (st2 := [.int (-1), .int x]) (M2 := (A, G, PF)) (hs2 := []) (C := True) [(.iload_n 1, 0, 0), (.iconst (-1), 0, 0)] [] (by decide +kernel) rfl trivial ?_
  refine go_cmp (cnd := .eq) (off := 11) 13 (by decide +kernel) (by decide) (fun (c1 : x = (-1)) => ?_) (fun (c1 : ¬ x = (-1)) => ?_)
  · skip
    refine go_blk (pc2 := 14) (L2 := [.ref 0, .int x]) (st2 := [.int 1]) (M2 := (A, G, PF)) (hs2 := []) (C := True) [(.iconst 1, 0, 0)] [] (by decide +kernel) rfl trivial ?_
    refine go_goto (off := 4) 18 (by decide +kernel) (by decide) ?_
    exact go_retz (by decide +kernel) rfl (Or.inr rfl) (pv1 (by first | exact Or.inl (by assumption) | exact Or.inr (by assumption) | exact fun zz => zz.elim (by assumption) (by assumption)))
  · skip
    refine go_blk (pc2 := 7) (L2 := [.ref 0, .int x]) (st2 := [.int x, .ref 0]) (M2 := (A, G, PF)) (hs2 := []) (C := True) [(.aload_n 0, 0, 0), (.iload_n 1, 0, 0)] [] (by decide +kernel) rfl trivial ?_
    refine go_call (Y2 := mX5_isDefined) (n2 := 27) (st := []) [.ref 0] [.int x] ck_5_77 cwX5_isDefined rfl (by decide +kernel) rfl (fun h => absurd h (by decide)) (fun _ => ⟨0, rfl, by decide, rfl⟩) (Nat.le_of_ble_eq_true rfl) (Or.inl rfl) (fun _ _ _ h => h) (s_X5_isDefined l A G dm hdm hdm32 x) (fun v M2 hp2 => ?_)
    obtain ⟨rfl, rfl⟩ := hp2
    rcases Classical.em (Dfd dm x) with hb3 | hb3
    · rw [bi_t hb3]
      show Go l ro0 mX5_isDefinedOrAbsent 27 (A, G, PF) 10 [.ref 0, .int x] [.int 1] 27 _
      refine go_ifz (cnd := .eq) (off := 7) 17 (by decide +kernel) (by decide) (fun (h : (1 : Int32) = 0) => absurd h (by decide)) (fun _ => ?_)
      refine go_blk (pc2 := 14) (L2 := [.ref 0, .int x]) (st2 := [.int 1]) (M2 := (A, G, PF)) (hs2 := []) (C := True) [(.iconst 1, 0, 0)] [] (by decide +kernel) rfl trivial ?_
      refine go_goto (off := 4) 18 (by decide +kernel) (by decide) ?_
      exact go_retz (by decide +kernel) rfl (Or.inr rfl) (pv1 (by first | exact Or.inl (by assumption) | exact Or.inr (by assumption) | exact fun zz => zz.elim (by assumption) (by assumption)))
    · rw [bi_f hb3]
      show Go l ro0 mX5_isDefinedOrAbsent 27 (A, G, PF) 10 [.ref 0, .int x] [.int 0] 27 _
      refine go_ifz (cnd := .eq) (off := 7) 17 (by decide +kernel) (by decide) (fun _ => ?_) (fun (h : ¬ (0 : Int32) = 0) => absurd h (by decide))
      refine go_blk (pc2 := 18) (L2 := [.ref 0, .int x]) (st2 := [.int 0]) (M2 := (A, G, PF)) (hs2 := []) (C := True) [(.iconst 0, 0, 0)] [] (by decide +kernel) rfl trivial ?_
      exact go_retz (by decide +kernel) rfl (Or.inl rfl) (pv0 (by first | exact Or.inl (by assumption) | exact Or.inr (by assumption) | exact fun zz => zz.elim (by assumption) (by assumption)))
set_option maxRecDepth 100000 in
set_option maxHeartbeats 4000000 in
theorem s_X5_linear (l : Launch) (A : Nat → Nat → Int32) (G : Nat → Nat → Int64) (k a b c d e : Int32) : Sem l mX5_linear [.ref 0, .int k, .int a, .int b, .int c, .int d, .int e] 27 (A, G, PF) 27 (fun r M2 => (LinOk k a b c d ∧ ∃ kk, kk < 5 ∧ k = nI kk ∧ r = some (.int 1) ∧ M2 = (u2 (dlin A kk a b c d e) 0 5 1, G, PF)) ∨ (¬ LinOk k a b c d ∧ r = some (.int 0) ∧ M2 = (A, G, PF))) := by
  refine sem_of_go (by decide) rfl (by decide) (by decide) rfl (Nat.le_of_ble_eq_true rfl) ?_
  show Go l ro0 mX5_linear 27 (A, G, PF) 0 [.ref 0, .int k, .int a, .int b, .int c, .int d, .int e] [] 27 (fun r M2 => (LinOk k a b c d ∧ ∃ kk, kk < 5 ∧ k = nI kk ∧ r = some (.int 1) ∧ M2 = (u2 (dlin A kk a b c d e) 0 5 1, G, PF)) ∨ (¬ LinOk k a b c d ∧ r = some (.int 0) ∧ M2 = (A, G, PF)))
  refine go_blk (pc2 := 1) (L2 := [.ref 0, .int k, .int a, .int b, .int c, .int d, .int e]) (st2 := [.int k]) (M2 := (A, G, PF)) (hs2 := []) (C := True) [(.iload_n 1, 0, 0)] [] (by decide +kernel) rfl trivial ?_
  refine go_call (Y2 := mX5_isAtom) (n2 := 27) (st := []) [] [.int k] ck_5_55 cwX5_isAtom rfl (by decide +kernel) rfl (fun _ => rfl) (fun h => absurd rfl h) (Nat.le_of_ble_eq_true rfl) (Or.inl rfl) (fun _ _ _ h => h) (s_X5_isAtom l A G k) (fun v M2 hp1 => ?_)
  obtain ⟨rfl, rfl⟩ := hp1
  rcases Classical.em (0 ≤ k ∧ k < 5) with hb2 | hb2
  · rw [bi_t hb2]
    show Go l ro0 mX5_linear 27 (A, G, PF) 4 [.ref 0, .int k, .int a, .int b, .int c, .int d, .int e] [.int 1] 27 _
    refine go_ifz (cnd := .eq) (off := 21) 25 (by decide +kernel) (by decide) (fun (h : (1 : Int32) = 0) => absurd h (by decide)) (fun _ => ?_)
    refine go_blk (pc2 := 11) (L2 := [.ref 0, .int k, .int a, .int b, .int c, .int d, .int e]) (st2 := [.int c, .int b, .int a]) (M2 := (A, G, PF)) (hs2 := []) (C := True) [(.iload_n 2, 0, 0), (.iload_n 3, 0, 0), (.iload 4, 0, 0)] [] (by decide +kernel) rfl trivial ?_
    refine go_call (Y2 := mX5_areFactors) (n2 := 27) (st := []) [] [.int a, .int b, .int c] ck_5_59 cwX5_areFactors rfl (by decide +kernel) rfl (fun _ => rfl) (fun h => absurd rfl h) (Nat.le_of_ble_eq_true rfl) (Or.inl rfl) (fun _ _ _ h => h) (s_X5_areFactors l A G a b c) (fun v M2 hp3 => ?_)
    obtain ⟨rfl, rfl⟩ := hp3
    rcases Classical.em (f9 a ∧ f9 b ∧ f9 c) with hb4 | hb4
    · rw [bi_t hb4]
      show Go l ro0 mX5_linear 27 (A, G, PF) 14 [.ref 0, .int k, .int a, .int b, .int c, .int d, .int e] [.int 1] 27 _
      refine go_ifz (cnd := .eq) (off := 11) 25 (by decide +kernel) (by decide) (fun (h : (1 : Int32) = 0) => absurd h (by decide)) (fun _ => ?_)
      refine go_blk (pc2 := 19) (L2 := [.ref 0, .int k, .int a, .int b, .int c, .int d, .int e]) (st2 := [.int d]) (M2 := (A, G, PF)) (hs2 := []) (C := True) [(.iload 5, 0, 0)] [] (by decide +kernel) rfl trivial ?_
      refine go_call (Y2 := mX5_isLimit) (n2 := 27) (st := []) [] [.int d] ck_5_63 cwX5_isLimit rfl (by decide +kernel) rfl (fun _ => rfl) (fun h => absurd rfl h) (Nat.le_of_ble_eq_true rfl) (Or.inl rfl) (fun _ _ _ h => h) (s_X5_isLimit l A G d) (fun v M2 hp5 => ?_)
      obtain ⟨rfl, rfl⟩ := hp5
      rcases Classical.em (f99 d) with hb6 | hb6
      · rw [bi_t hb6]
        show Go l ro0 mX5_linear 27 (A, G, PF) 22 [.ref 0, .int k, .int a, .int b, .int c, .int d, .int e] [.int 1] 27 _
        obtain ⟨kk, hkk5, hkk⟩ := ix5 (by assumption)
        refine go_ifz (cnd := .ne) (off := 5) 27 (by decide +kernel) (by decide) (fun _ => ?_) (fun (h : (1 : Int32) = 0) => absurd h (by decide))
        refine go_blk (pc2 := 40) (L2 := [.ref 0, .int k, .int a, .int b, .int c, .int d, .int e]) (st2 := [.int e, .int d, .int c, .int b, .int a, .int k, .ref 1]) (M2 := (A, G, PF)) (hs2 := []) (C := True) [(.aload_n 0, 0, 0), (.getfield 12, 5, 0), (.iload_n 1, 0, 0), (.iload_n 2, 0, 0), (.iload_n 3, 0, 0), (.iload 4, 0, 0), (.iload 5, 0, 0), (.iload 6, 0, 0)] [] (by decide +kernel) rfl trivial ?_
        refine go_call (Y2 := mX0_defineLinear) (n2 := 27) (st := []) [.ref 1] [.int k, .int a, .int b, .int c, .int d, .int e] ck_5_66 cwX0_defineLinear rfl (by decide +kernel) rfl (fun h => absurd h (by decide)) (fun _ => ⟨1, rfl, by decide, rfl⟩) (Nat.le_of_ble_eq_true rfl) (Or.inl rfl) (fun _ _ _ h => h) (by rw [hkk]; exact s_X0_defineLinear l A G kk hkk5 a b c d e) (fun v M2 hp7 => ?_)
        obtain ⟨rfl, rfl⟩ := hp7
        show Go l ro0 mX5_linear 27 ((dlin A kk a b c d e), G, PF) 43 [.ref 0, .int k, .int a, .int b, .int c, .int d, .int e] [] 27 _
        refine go_blk (pc2 := 49) (L2 := [.ref 0, .int k, .int a, .int b, .int c, .int d, .int e]) (st2 := [.int 1]) (M2 := ((u2 (dlin A kk a b c d e) 0 5 1), G, PF)) (hs2 := []) (C := (1 = 0 ∨ 1 = 1) ∧ True) [(.aload_n 0, 0, 0), (.iconst 1, 0, 0), (.putfield 44, 5, 5), (.iconst 1, 0, 0)] [] (by decide +kernel) rfl ⟨Or.inr rfl, trivial⟩ ?_
        exact go_retz (by decide +kernel) rfl (Or.inr rfl) (Or.inl ⟨⟨by assumption, by assumption, by assumption⟩, kk, hkk5, hkk, rfl, rfl⟩)
      · rw [bi_f hb6]
        show Go l ro0 mX5_linear 27 (A, G, PF) 22 [.ref 0, .int k, .int a, .int b, .int c, .int d, .int e] [.int 0] 27 _
        refine go_ifz (cnd := .ne) (off := 5) 27 (by decide +kernel) (by decide) (fun (h : ¬ (0 : Int32) = 0) => absurd h (by decide)) (fun _ => ?_)
        refine go_blk (pc2 := 26) (L2 := [.ref 0, .int k, .int a, .int b, .int c, .int d, .int e]) (st2 := [.int 0]) (M2 := (A, G, PF)) (hs2 := []) (C := True) [(.iconst 0, 0, 0)] [] (by decide +kernel) rfl trivial ?_
        exact go_retz (by decide +kernel) rfl (Or.inl rfl) (Or.inr ⟨by rintro ⟨z1, z2, z3⟩; contradiction, rfl, rfl⟩)
    · rw [bi_f hb4]
      show Go l ro0 mX5_linear 27 (A, G, PF) 14 [.ref 0, .int k, .int a, .int b, .int c, .int d, .int e] [.int 0] 27 _
      refine go_ifz (cnd := .eq) (off := 11) 25 (by decide +kernel) (by decide) (fun _ => ?_) (fun (h : ¬ (0 : Int32) = 0) => absurd h (by decide))
      refine go_blk (pc2 := 26) (L2 := [.ref 0, .int k, .int a, .int b, .int c, .int d, .int e]) (st2 := [.int 0]) (M2 := (A, G, PF)) (hs2 := []) (C := True) [(.iconst 0, 0, 0)] [] (by decide +kernel) rfl trivial ?_
      exact go_retz (by decide +kernel) rfl (Or.inl rfl) (Or.inr ⟨by rintro ⟨z1, z2, z3⟩; contradiction, rfl, rfl⟩)
  · rw [bi_f hb2]
    show Go l ro0 mX5_linear 27 (A, G, PF) 4 [.ref 0, .int k, .int a, .int b, .int c, .int d, .int e] [.int 0] 27 _
    refine go_ifz (cnd := .eq) (off := 21) 25 (by decide +kernel) (by decide) (fun _ => ?_) (fun (h : ¬ (0 : Int32) = 0) => absurd h (by decide))
    refine go_blk (pc2 := 26) (L2 := [.ref 0, .int k, .int a, .int b, .int c, .int d, .int e]) (st2 := [.int 0]) (M2 := (A, G, PF)) (hs2 := []) (C := True) [(.iconst 0, 0, 0)] [] (by decide +kernel) rfl trivial ?_
    exact go_retz (by decide +kernel) rfl (Or.inl rfl) (Or.inr ⟨by rintro ⟨z1, z2, z3⟩; contradiction, rfl, rfl⟩)
set_option maxRecDepth 100000 in
set_option maxHeartbeats 4000000 in
theorem s_X5_fact (l : Launch) (A : Nat → Nat → Int32) (G : Nat → Nat → Int64) (k i j : Int32) : Sem l mX5_fact [.ref 0, .int k, .int i, .int j] 27 (A, G, PF) 27 (fun r M2 => (FacOk k i j ∧ ∃ kk, kk < 5 ∧ k = nI kk ∧ r = some (.int 1) ∧ M2 = (u2 (dfac A kk i j) 0 5 1, G, PF)) ∨ (¬ FacOk k i j ∧ r = some (.int 0) ∧ M2 = (A, G, PF))) := by
  refine sem_of_go (by decide) rfl (by decide) (by decide) rfl (Nat.le_of_ble_eq_true rfl) ?_
  show Go l ro0 mX5_fact 27 (A, G, PF) 0 [.ref 0, .int k, .int i, .int j] [] 27 (fun r M2 => (FacOk k i j ∧ ∃ kk, kk < 5 ∧ k = nI kk ∧ r = some (.int 1) ∧ M2 = (u2 (dfac A kk i j) 0 5 1, G, PF)) ∨ (¬ FacOk k i j ∧ r = some (.int 0) ∧ M2 = (A, G, PF)))
  refine go_blk (pc2 := 1) (L2 := [.ref 0, .int k, .int i, .int j]) (st2 := [.int k]) (M2 := (A, G, PF)) (hs2 := []) (C := True) [(.iload_n 1, 0, 0)] [] (by decide +kernel) rfl trivial ?_
  refine go_call (Y2 := mX5_isAtom) (n2 := 27) (st := []) [] [.int k] ck_5_55 cwX5_isAtom rfl (by decide +kernel) rfl (fun _ => rfl) (fun h => absurd rfl h) (Nat.le_of_ble_eq_true rfl) (Or.inl rfl) (fun _ _ _ h => h) (s_X5_isAtom l A G k) (fun v M2 hp1 => ?_)
  obtain ⟨rfl, rfl⟩ := hp1
  rcases Classical.em (0 ≤ k ∧ k < 5) with hb2 | hb2
  · rw [bi_t hb2]
    show Go l ro0 mX5_fact 27 (A, G, PF) 4 [.ref 0, .int k, .int i, .int j] [.int 1] 27 _
    obtain ⟨kk, hkk5, hkk⟩ := ix5 (by assumption)
    refine go_ifz (cnd := .eq) (off := 17) 21 (by decide +kernel) (by decide) (fun (h : (1 : Int32) = 0) => absurd h (by decide)) (fun _ => ?_)
    refine go_blk (pc2 := 8) (L2 := [.ref 0, .int k, .int i, .int j]) (st2 := [.int i]) (M2 := (A, G, PF)) (hs2 := []) (C := True) [(.iload_n 2, 0, 0)] [] (by decide +kernel) rfl trivial ?_
    refine go_call (Y2 := mX5_isNumber) (n2 := 27) (st := []) [] [.int i] ck_5_70 cwX5_isNumber rfl (by decide +kernel) rfl (fun _ => rfl) (fun h => absurd rfl h) (Nat.le_of_ble_eq_true rfl) (Or.inl rfl) (fun _ _ _ h => h) (s_X5_isNumber l A G i) (fun v M2 hp3 => ?_)
    obtain ⟨rfl, rfl⟩ := hp3
    rcases Classical.em (0 ≤ i ∧ i < 3) with hb4 | hb4
    · rw [bi_t hb4]
      show Go l ro0 mX5_fact 27 (A, G, PF) 11 [.ref 0, .int k, .int i, .int j] [.int 1] 27 _
      refine go_ifz (cnd := .eq) (off := 10) 21 (by decide +kernel) (by decide) (fun (h : (1 : Int32) = 0) => absurd h (by decide)) (fun _ => ?_)
      refine go_blk (pc2 := 15) (L2 := [.ref 0, .int k, .int i, .int j]) (st2 := [.int j]) (M2 := (A, G, PF)) (hs2 := []) (C := True) [(.iload_n 3, 0, 0)] [] (by decide +kernel) rfl trivial ?_
      refine go_call (Y2 := mX5_isNumber) (n2 := 27) (st := []) [] [.int j] ck_5_70 cwX5_isNumber rfl (by decide +kernel) rfl (fun _ => rfl) (fun h => absurd rfl h) (Nat.le_of_ble_eq_true rfl) (Or.inl rfl) (fun _ _ _ h => h) (s_X5_isNumber l A G j) (fun v M2 hp5 => ?_)
      obtain ⟨rfl, rfl⟩ := hp5
      rcases Classical.em (0 ≤ j ∧ j < 3) with hb6 | hb6
      · rw [bi_t hb6]
        show Go l ro0 mX5_fact 27 (A, G, PF) 18 [.ref 0, .int k, .int i, .int j] [.int 1] 27 _
        refine go_ifz (cnd := .ne) (off := 5) 23 (by decide +kernel) (by decide) (fun _ => ?_) (fun (h : (1 : Int32) = 0) => absurd h (by decide))
        refine go_blk (pc2 := 30) (L2 := [.ref 0, .int k, .int i, .int j]) (st2 := [.int j, .int i, .int k, .ref 1]) (M2 := (A, G, PF)) (hs2 := []) (C := True) [(.aload_n 0, 0, 0), (.getfield 12, 5, 0), (.iload_n 1, 0, 0), (.iload_n 2, 0, 0), (.iload_n 3, 0, 0)] [] (by decide +kernel) rfl trivial ?_
        refine go_call (Y2 := mX0_defineFact) (n2 := 27) (st := []) [.ref 1] [.int k, .int i, .int j] ck_5_73 cwX0_defineFact rfl (by decide +kernel) rfl (fun h => absurd h (by decide)) (fun _ => ⟨1, rfl, by decide, rfl⟩) (Nat.le_of_ble_eq_true rfl) (Or.inl rfl) (fun _ _ _ h => h) (by rw [hkk]; exact s_X0_defineFact l A G kk hkk5 i j) (fun v M2 hp7 => ?_)
        obtain ⟨rfl, rfl⟩ := hp7
        show Go l ro0 mX5_fact 27 ((dfac A kk i j), G, PF) 33 [.ref 0, .int k, .int i, .int j] [] 27 _
        refine go_blk (pc2 := 39) (L2 := [.ref 0, .int k, .int i, .int j]) (st2 := [.int 1]) (M2 := ((u2 (dfac A kk i j) 0 5 1), G, PF)) (hs2 := []) (C := (1 = 0 ∨ 1 = 1) ∧ True) [(.aload_n 0, 0, 0), (.iconst 1, 0, 0), (.putfield 44, 5, 5), (.iconst 1, 0, 0)] [] (by decide +kernel) rfl ⟨Or.inr rfl, trivial⟩ ?_
        exact go_retz (by decide +kernel) rfl (Or.inr rfl) (Or.inl ⟨⟨by assumption, by assumption, by assumption⟩, kk, hkk5, hkk, rfl, rfl⟩)
      · rw [bi_f hb6]
        show Go l ro0 mX5_fact 27 (A, G, PF) 18 [.ref 0, .int k, .int i, .int j] [.int 0] 27 _
        refine go_ifz (cnd := .ne) (off := 5) 23 (by decide +kernel) (by decide) (fun (h : ¬ (0 : Int32) = 0) => absurd h (by decide)) (fun _ => ?_)
        refine go_blk (pc2 := 22) (L2 := [.ref 0, .int k, .int i, .int j]) (st2 := [.int 0]) (M2 := (A, G, PF)) (hs2 := []) (C := True) [(.iconst 0, 0, 0)] [] (by decide +kernel) rfl trivial ?_
        exact go_retz (by decide +kernel) rfl (Or.inl rfl) (Or.inr ⟨by rintro ⟨z1, z2, z3⟩; contradiction, rfl, rfl⟩)
    · rw [bi_f hb4]
      show Go l ro0 mX5_fact 27 (A, G, PF) 11 [.ref 0, .int k, .int i, .int j] [.int 0] 27 _
      refine go_ifz (cnd := .eq) (off := 10) 21 (by decide +kernel) (by decide) (fun _ => ?_) (fun (h : ¬ (0 : Int32) = 0) => absurd h (by decide))
      refine go_blk (pc2 := 22) (L2 := [.ref 0, .int k, .int i, .int j]) (st2 := [.int 0]) (M2 := (A, G, PF)) (hs2 := []) (C := True) [(.iconst 0, 0, 0)] [] (by decide +kernel) rfl trivial ?_
      exact go_retz (by decide +kernel) rfl (Or.inl rfl) (Or.inr ⟨by rintro ⟨z1, z2, z3⟩; contradiction, rfl, rfl⟩)
  · rw [bi_f hb2]
    show Go l ro0 mX5_fact 27 (A, G, PF) 4 [.ref 0, .int k, .int i, .int j] [.int 0] 27 _
    refine go_ifz (cnd := .eq) (off := 17) 21 (by decide +kernel) (by decide) (fun _ => ?_) (fun (h : ¬ (0 : Int32) = 0) => absurd h (by decide))
    refine go_blk (pc2 := 22) (L2 := [.ref 0, .int k, .int i, .int j]) (st2 := [.int 0]) (M2 := (A, G, PF)) (hs2 := []) (C := True) [(.iconst 0, 0, 0)] [] (by decide +kernel) rfl trivial ?_
    exact go_retz (by decide +kernel) rfl (Or.inl rfl) (Or.inr ⟨by rintro ⟨z1, z2, z3⟩; contradiction, rfl, rfl⟩)
set_option maxRecDepth 100000 in
set_option maxHeartbeats 4000000 in
theorem s_X5_clause (l : Launch) (A : Nat → Nat → Int32) (G : Nat → Nat → Int64) (dm : Nat) (hdm : A 1 7 = nI dm) (hdm32 : dm < 32) (ncl : Nat) (hn : A 9 2 = nI ncl) (hn8 : ncl ≤ 8) (p q r1 : Int32) : Sem l mX5_clause [.ref 0, .int p, .int q, .int r1] 27 (A, G, PF) 27 (fun r M2 => (ClOk dm p q r1 ∧ ncl < 8 ∧ r = some (.int (A 9 2 + 1)) ∧ M2 = ((u2 (u2 (u2 (u2 A 10 (ncl * 3) p) 10 (ncl * 3 + 1) q) 10 (ncl * 3 + 2) r1) 9 2 (A 9 2 + 1)), G, PF)) ∨ (ClOk dm p q r1 ∧ ncl = 8 ∧ r = some (.int (-2)) ∧ M2 = (A, G, PF)) ∨ (¬ ClOk dm p q r1 ∧ r = some (.int (-1)) ∧ M2 = (A, G, PF))) := by
  refine sem_of_go (by decide) rfl (by decide) (by decide) rfl (Nat.le_of_ble_eq_true rfl) ?_
  show Go l ro0 mX5_clause 27 (A, G, PF) 0 [.ref 0, .int p, .int q, .int r1, .null] [] 27 (fun r M2 => (ClOk dm p q r1 ∧ ncl < 8 ∧ r = some (.int (A 9 2 + 1)) ∧ M2 = ((u2 (u2 (u2 (u2 A 10 (ncl * 3) p) 10 (ncl * 3 + 1) q) 10 (ncl * 3 + 2) r1) 9 2 (A 9 2 + 1)), G, PF)) ∨ (ClOk dm p q r1 ∧ ncl = 8 ∧ r = some (.int (-2)) ∧ M2 = (A, G, PF)) ∨ (¬ ClOk dm p q r1 ∧ r = some (.int (-1)) ∧ M2 = (A, G, PF)))
  refine go_blk (pc2 := 2) (L2 := [.ref 0, .int p, .int q, .int r1, .null]) (st2 := [.int (-1), .int q]) (M2 := (A, G, PF)) (hs2 := []) (C := True) [(.iload_n 2, 0, 0), (.iconst (-1), 0, 0)] [] (by decide +kernel) rfl trivial ?_
  refine go_cmp (cnd := .ne) (off := 12) 14 (by decide +kernel) (by decide) (fun (c1 : ¬ q = (-1)) => ?_) (fun (c1 : q = (-1)) => ?_)
  · skip
    refine go_blk (pc2 := 19) (L2 := [.ref 0, .int p, .int q, .int r1, .int 0]) (st2 := [.int 0]) (M2 := (A, G, PF)) (hs2 := []) (C := True) [(.iconst 0, 0, 0), (.istore 4, 0, 0), (.iload 4, 0, 0)] [] (by decide +kernel) rfl trivial ?_
    refine go_ifz (cnd := .ne) (off := 27) 46 (by decide +kernel) (by decide) (fun (h : ¬ (0 : Int32) = 0) => absurd h (by decide)) (fun _ => ?_)
    refine go_blk (pc2 := 24) (L2 := [.ref 0, .int p, .int q, .int r1, .int 0]) (st2 := [.int p, .ref 0]) (M2 := (A, G, PF)) (hs2 := []) (C := True) [(.aload_n 0, 0, 0), (.iload_n 1, 0, 0)] [] (by decide +kernel) rfl trivial ?_
    refine go_call (Y2 := mX5_isDefined) (n2 := 27) (st := []) [.ref 0] [.int p] ck_5_77 cwX5_isDefined rfl (by decide +kernel) rfl (fun h => absurd h (by decide)) (fun _ => ⟨0, rfl, by decide, rfl⟩) (Nat.le_of_ble_eq_true rfl) (Or.inl rfl) (fun _ _ _ h => h) (s_X5_isDefined l A G dm hdm hdm32 p) (fun v M2 hp2 => ?_)
    obtain ⟨rfl, rfl⟩ := hp2
    rcases Classical.em (Dfd dm p) with hb3 | hb3
    · rw [bi_t hb3]
      show Go l ro0 mX5_clause 27 (A, G, PF) 27 [.ref 0, .int p, .int q, .int r1, .int 0] [.int 1] 27 _
      refine go_ifz (cnd := .eq) (off := 19) 46 (by decide +kernel) (by decide) (fun (h : (1 : Int32) = 0) => absurd h (by decide)) (fun _ => ?_)
      refine go_blk (pc2 := 32) (L2 := [.ref 0, .int p, .int q, .int r1, .int 0]) (st2 := [.int q, .ref 0]) (M2 := (A, G, PF)) (hs2 := []) (C := True) [(.aload_n 0, 0, 0), (.iload_n 2, 0, 0)] [] (by decide +kernel) rfl trivial ?_
      refine go_call (Y2 := mX5_isDefinedOrAbsent) (n2 := 27) (st := []) [.ref 0] [.int q] ck_5_80 cwX5_isDefinedOrAbsent rfl (by decide +kernel) rfl (fun h => absurd h (by decide)) (fun _ => ⟨0, rfl, by decide, rfl⟩) (Nat.le_of_ble_eq_true rfl) (Or.inl rfl) (fun _ _ _ h => h) (s_X5_isDefinedOrAbsent l A G dm hdm hdm32 q) (fun v M2 hp4 => ?_)
      obtain ⟨rfl, rfl⟩ := hp4
      rcases Classical.em (q = -1 ∨ Dfd dm q) with hb5 | hb5
      · rw [bi_t hb5]
        show Go l ro0 mX5_clause 27 (A, G, PF) 35 [.ref 0, .int p, .int q, .int r1, .int 0] [.int 1] 27 _
        refine go_ifz (cnd := .eq) (off := 11) 46 (by decide +kernel) (by decide) (fun (h : (1 : Int32) = 0) => absurd h (by decide)) (fun _ => ?_)
        refine go_blk (pc2 := 40) (L2 := [.ref 0, .int p, .int q, .int r1, .int 0]) (st2 := [.int r1, .ref 0]) (M2 := (A, G, PF)) (hs2 := []) (C := True) [(.aload_n 0, 0, 0), (.iload_n 3, 0, 0)] [] (by decide +kernel) rfl trivial ?_
        refine go_call (Y2 := mX5_isDefinedOrAbsent) (n2 := 27) (st := []) [.ref 0] [.int r1] ck_5_80 cwX5_isDefinedOrAbsent rfl (by decide +kernel) rfl (fun h => absurd h (by decide)) (fun _ => ⟨0, rfl, by decide, rfl⟩) (Nat.le_of_ble_eq_true rfl) (Or.inl rfl) (fun _ _ _ h => h) (s_X5_isDefinedOrAbsent l A G dm hdm hdm32 r1) (fun v M2 hp6 => ?_)
        obtain ⟨rfl, rfl⟩ := hp6
        rcases Classical.em (r1 = -1 ∨ Dfd dm r1) with hb7 | hb7
        · rw [bi_t hb7]
          show Go l ro0 mX5_clause 27 (A, G, PF) 43 [.ref 0, .int p, .int q, .int r1, .int 0] [.int 1] 27 _
          refine go_ifz (cnd := .ne) (off := 5) 48 (by decide +kernel) (by decide) (fun _ => ?_) (fun (h : (1 : Int32) = 0) => absurd h (by decide))
          refine go_blk (pc2 := 55) (L2 := [.ref 0, .int p, .int q, .int r1, .int 0]) (st2 := [.int r1, .int q, .int p, .ref 9]) (M2 := (A, G, PF)) (hs2 := []) (C := True) [(.aload_n 0, 0, 0), (.getfield 19, 5, 1), (.iload_n 1, 0, 0), (.iload_n 2, 0, 0), (.iload_n 3, 0, 0)] [] (by decide +kernel) rfl trivial ?_
          refine go_call (Y2 := mX2_add) (n2 := 27) (st := []) [.ref 9] [.int p, .int q, .int r1] ck_5_83 cwX2_add rfl (by decide +kernel) rfl (fun h => absurd h (by decide)) (fun _ => ⟨9, rfl, by decide, rfl⟩) (Nat.le_of_ble_eq_true rfl) (Or.inl rfl) (fun _ _ _ h => h) (s_X2_add l A G ncl hn hn8 p q r1) (fun v M2 hp8 => ?_)
          rcases hp8 with ⟨hlt, rfl, rfl⟩ | ⟨hge, rfl, rfl⟩
          · show Go l ro0 mX5_clause 27 ((u2 (u2 (u2 (u2 A 10 (ncl * 3) p) 10 (ncl * 3 + 1) q) 10 (ncl * 3 + 2) r1) 9 2 (A 9 2 + 1)), G, PF) 58 [.ref 0, .int p, .int q, .int r1, .int 0] [.int 1] 27 _
            refine go_ifz (cnd := .eq) (off := 13) 71 (by decide +kernel) (by decide) (fun (h : (1 : Int32) = 0) => absurd h (by decide)) (fun _ => ?_)
            refine go_blk (pc2 := 65) (L2 := [.ref 0, .int p, .int q, .int r1, .int 0]) (st2 := [.ref 9]) (M2 := ((u2 (u2 (u2 (u2 A 10 (ncl * 3) p) 10 (ncl * 3 + 1) q) 10 (ncl * 3 + 2) r1) 9 2 (A 9 2 + 1)), G, PF)) (hs2 := []) (C := True) [(.aload_n 0, 0, 0), (.getfield 19, 5, 1)] [] (by decide +kernel) rfl trivial ?_
            refine go_call (Y2 := mX2_size) (n2 := 27) (st := []) [.ref 9] [] ck_5_86 cwX2_size rfl (by decide +kernel) rfl (fun h => absurd h (by decide)) (fun _ => ⟨9, rfl, by decide, rfl⟩) (Nat.le_of_ble_eq_true rfl) (Or.inl rfl) (fun _ _ _ h => h) (s_X2_size l (u2 (u2 (u2 (u2 A 10 (ncl * 3) p) 10 (ncl * 3 + 1) q) 10 (ncl * 3 + 2) r1) 9 2 (A 9 2 + 1)) G) (fun v M2 hp9 => ?_)
            obtain ⟨rfl, rfl⟩ := hp9
            show Go l ro0 mX5_clause 27 ((u2 (u2 (u2 (u2 A 10 (ncl * 3) p) 10 (ncl * 3 + 1) q) 10 (ncl * 3 + 2) r1) 9 2 (A 9 2 + 1)), G, PF) 68 [.ref 0, .int p, .int q, .int r1, .int 0] [.int (A 9 2 + 1)] 27 _
            refine go_goto (off := 5) 73 (by decide +kernel) (by decide) ?_
            exact go_reti (by decide +kernel) rfl (Or.inl ⟨⟨by rintro ⟨z1, z2⟩; contradiction, by assumption, by assumption, by assumption⟩, hlt, rfl, rfl⟩)
          · show Go l ro0 mX5_clause 27 (A, G, PF) 58 [.ref 0, .int p, .int q, .int r1, .int 0] [.int 0] 27 _
            refine go_ifz (cnd := .eq) (off := 13) 71 (by decide +kernel) (by decide) (fun _ => ?_) (fun (h : ¬ (0 : Int32) = 0) => absurd h (by decide))
            refine go_blk (pc2 := 73) (L2 := [.ref 0, .int p, .int q, .int r1, .int 0]) (st2 := [.int (-2)]) (M2 := (A, G, PF)) (hs2 := []) (C := True) [(.bipush (-2), 0, 0)] [] (by decide +kernel) rfl trivial ?_
            exact go_reti (by decide +kernel) rfl (Or.inr (Or.inl ⟨⟨by rintro ⟨z1, z2⟩; contradiction, by assumption, by assumption, by assumption⟩, hge, rfl, rfl⟩))
        · rw [bi_f hb7]
          show Go l ro0 mX5_clause 27 (A, G, PF) 43 [.ref 0, .int p, .int q, .int r1, .int 0] [.int 0] 27 _
          refine go_ifz (cnd := .ne) (off := 5) 48 (by decide +kernel) (by decide) (fun (h : ¬ (0 : Int32) = 0) => absurd h (by decide)) (fun _ => ?_)
          refine go_blk (pc2 := 47) (L2 := [.ref 0, .int p, .int q, .int r1, .int 0]) (st2 := [.int (-1)]) (M2 := (A, G, PF)) (hs2 := []) (C := True) [(.iconst (-1), 0, 0)] [] (by decide +kernel) rfl trivial ?_
          exact go_reti (by decide +kernel) rfl (Or.inr (Or.inr ⟨by rintro ⟨z1, z2, z3, z4⟩; first | contradiction | exact z1 ⟨by assumption, by assumption⟩, rfl, rfl⟩))
      · rw [bi_f hb5]
        show Go l ro0 mX5_clause 27 (A, G, PF) 35 [.ref 0, .int p, .int q, .int r1, .int 0] [.int 0] 27 _
        refine go_ifz (cnd := .eq) (off := 11) 46 (by decide +kernel) (by decide) (fun _ => ?_) (fun (h : ¬ (0 : Int32) = 0) => absurd h (by decide))
        refine go_blk (pc2 := 47) (L2 := [.ref 0, .int p, .int q, .int r1, .int 0]) (st2 := [.int (-1)]) (M2 := (A, G, PF)) (hs2 := []) (C := True) [(.iconst (-1), 0, 0)] [] (by decide +kernel) rfl trivial ?_
        exact go_reti (by decide +kernel) rfl (Or.inr (Or.inr ⟨by rintro ⟨z1, z2, z3, z4⟩; first | contradiction | exact z1 ⟨by assumption, by assumption⟩, rfl, rfl⟩))
    · rw [bi_f hb3]
      show Go l ro0 mX5_clause 27 (A, G, PF) 27 [.ref 0, .int p, .int q, .int r1, .int 0] [.int 0] 27 _
      refine go_ifz (cnd := .eq) (off := 19) 46 (by decide +kernel) (by decide) (fun _ => ?_) (fun (h : ¬ (0 : Int32) = 0) => absurd h (by decide))
      refine go_blk (pc2 := 47) (L2 := [.ref 0, .int p, .int q, .int r1, .int 0]) (st2 := [.int (-1)]) (M2 := (A, G, PF)) (hs2 := []) (C := True) [(.iconst (-1), 0, 0)] [] (by decide +kernel) rfl trivial ?_
      exact go_reti (by decide +kernel) rfl (Or.inr (Or.inr ⟨by rintro ⟨z1, z2, z3, z4⟩; first | contradiction | exact z1 ⟨by assumption, by assumption⟩, rfl, rfl⟩))
  · skip
    refine go_blk (pc2 := 7) (L2 := [.ref 0, .int p, .int q, .int r1, .null]) (st2 := [.int (-1), .int r1]) (M2 := (A, G, PF)) (hs2 := []) (C := True) [(.iload_n 3, 0, 0), (.iconst (-1), 0, 0)] [] (by decide +kernel) rfl trivial ?_
    refine go_cmp (cnd := .eq) (off := 7) 14 (by decide +kernel) (by decide) (fun (c10 : r1 = (-1)) => ?_) (fun (c10 : ¬ r1 = (-1)) => ?_)
    · skip
      refine go_blk (pc2 := 19) (L2 := [.ref 0, .int p, .int q, .int r1, .int 0]) (st2 := [.int 0]) (M2 := (A, G, PF)) (hs2 := []) (C := True) [(.iconst 0, 0, 0), (.istore 4, 0, 0), (.iload 4, 0, 0)] [] (by decide +kernel) rfl trivial ?_
      refine go_ifz (cnd := .ne) (off := 27) 46 (by decide +kernel) (by decide) (fun (h : ¬ (0 : Int32) = 0) => absurd h (by decide)) (fun _ => ?_)
      refine go_blk (pc2 := 24) (L2 := [.ref 0, .int p, .int q, .int r1, .int 0]) (st2 := [.int p, .ref 0]) (M2 := (A, G, PF)) (hs2 := []) (C := True) [(.aload_n 0, 0, 0), (.iload_n 1, 0, 0)] [] (by decide +kernel) rfl trivial ?_
      refine go_call (Y2 := mX5_isDefined) (n2 := 27) (st := []) [.ref 0] [.int p] ck_5_77 cwX5_isDefined rfl (by decide +kernel) rfl (fun h => absurd h (by decide)) (fun _ => ⟨0, rfl, by decide, rfl⟩) (Nat.le_of_ble_eq_true rfl) (Or.inl rfl) (fun _ _ _ h => h) (s_X5_isDefined l A G dm hdm hdm32 p) (fun v M2 hp11 => ?_)
      obtain ⟨rfl, rfl⟩ := hp11
      rcases Classical.em (Dfd dm p) with hb12 | hb12
      · rw [bi_t hb12]
        show Go l ro0 mX5_clause 27 (A, G, PF) 27 [.ref 0, .int p, .int q, .int r1, .int 0] [.int 1] 27 _
        refine go_ifz (cnd := .eq) (off := 19) 46 (by decide +kernel) (by decide) (fun (h : (1 : Int32) = 0) => absurd h (by decide)) (fun _ => ?_)
        refine go_blk (pc2 := 32) (L2 := [.ref 0, .int p, .int q, .int r1, .int 0]) (st2 := [.int q, .ref 0]) (M2 := (A, G, PF)) (hs2 := []) (C := True) [(.aload_n 0, 0, 0), (.iload_n 2, 0, 0)] [] (by decide +kernel) rfl trivial ?_
        refine go_call (Y2 := mX5_isDefinedOrAbsent) (n2 := 27) (st := []) [.ref 0] [.int q] ck_5_80 cwX5_isDefinedOrAbsent rfl (by decide +kernel) rfl (fun h => absurd h (by decide)) (fun _ => ⟨0, rfl, by decide, rfl⟩) (Nat.le_of_ble_eq_true rfl) (Or.inl rfl) (fun _ _ _ h => h) (s_X5_isDefinedOrAbsent l A G dm hdm hdm32 q) (fun v M2 hp13 => ?_)
        obtain ⟨rfl, rfl⟩ := hp13
        rcases Classical.em (q = -1 ∨ Dfd dm q) with hb14 | hb14
        · rw [bi_t hb14]
          show Go l ro0 mX5_clause 27 (A, G, PF) 35 [.ref 0, .int p, .int q, .int r1, .int 0] [.int 1] 27 _
          refine go_ifz (cnd := .eq) (off := 11) 46 (by decide +kernel) (by decide) (fun (h : (1 : Int32) = 0) => absurd h (by decide)) (fun _ => ?_)
          refine go_blk (pc2 := 40) (L2 := [.ref 0, .int p, .int q, .int r1, .int 0]) (st2 := [.int r1, .ref 0]) (M2 := (A, G, PF)) (hs2 := []) (C := True) [(.aload_n 0, 0, 0), (.iload_n 3, 0, 0)] [] (by decide +kernel) rfl trivial ?_
          refine go_call (Y2 := mX5_isDefinedOrAbsent) (n2 := 27) (st := []) [.ref 0] [.int r1] ck_5_80 cwX5_isDefinedOrAbsent rfl (by decide +kernel) rfl (fun h => absurd h (by decide)) (fun _ => ⟨0, rfl, by decide, rfl⟩) (Nat.le_of_ble_eq_true rfl) (Or.inl rfl) (fun _ _ _ h => h) (s_X5_isDefinedOrAbsent l A G dm hdm hdm32 r1) (fun v M2 hp15 => ?_)
          obtain ⟨rfl, rfl⟩ := hp15
          rcases Classical.em (r1 = -1 ∨ Dfd dm r1) with hb16 | hb16
          · rw [bi_t hb16]
            show Go l ro0 mX5_clause 27 (A, G, PF) 43 [.ref 0, .int p, .int q, .int r1, .int 0] [.int 1] 27 _
            refine go_ifz (cnd := .ne) (off := 5) 48 (by decide +kernel) (by decide) (fun _ => ?_) (fun (h : (1 : Int32) = 0) => absurd h (by decide))
            refine go_blk (pc2 := 55) (L2 := [.ref 0, .int p, .int q, .int r1, .int 0]) (st2 := [.int r1, .int q, .int p, .ref 9]) (M2 := (A, G, PF)) (hs2 := []) (C := True) [(.aload_n 0, 0, 0), (.getfield 19, 5, 1), (.iload_n 1, 0, 0), (.iload_n 2, 0, 0), (.iload_n 3, 0, 0)] [] (by decide +kernel) rfl trivial ?_
            refine go_call (Y2 := mX2_add) (n2 := 27) (st := []) [.ref 9] [.int p, .int q, .int r1] ck_5_83 cwX2_add rfl (by decide +kernel) rfl (fun h => absurd h (by decide)) (fun _ => ⟨9, rfl, by decide, rfl⟩) (Nat.le_of_ble_eq_true rfl) (Or.inl rfl) (fun _ _ _ h => h) (s_X2_add l A G ncl hn hn8 p q r1) (fun v M2 hp17 => ?_)
            rcases hp17 with ⟨hlt, rfl, rfl⟩ | ⟨hge, rfl, rfl⟩
            · show Go l ro0 mX5_clause 27 ((u2 (u2 (u2 (u2 A 10 (ncl * 3) p) 10 (ncl * 3 + 1) q) 10 (ncl * 3 + 2) r1) 9 2 (A 9 2 + 1)), G, PF) 58 [.ref 0, .int p, .int q, .int r1, .int 0] [.int 1] 27 _
              refine go_ifz (cnd := .eq) (off := 13) 71 (by decide +kernel) (by decide) (fun (h : (1 : Int32) = 0) => absurd h (by decide)) (fun _ => ?_)
              refine go_blk (pc2 := 65) (L2 := [.ref 0, .int p, .int q, .int r1, .int 0]) (st2 := [.ref 9]) (M2 := ((u2 (u2 (u2 (u2 A 10 (ncl * 3) p) 10 (ncl * 3 + 1) q) 10 (ncl * 3 + 2) r1) 9 2 (A 9 2 + 1)), G, PF)) (hs2 := []) (C := True) [(.aload_n 0, 0, 0), (.getfield 19, 5, 1)] [] (by decide +kernel) rfl trivial ?_
              refine go_call (Y2 := mX2_size) (n2 := 27) (st := []) [.ref 9] [] ck_5_86 cwX2_size rfl (by decide +kernel) rfl (fun h => absurd h (by decide)) (fun _ => ⟨9, rfl, by decide, rfl⟩) (Nat.le_of_ble_eq_true rfl) (Or.inl rfl) (fun _ _ _ h => h) (s_X2_size l (u2 (u2 (u2 (u2 A 10 (ncl * 3) p) 10 (ncl * 3 + 1) q) 10 (ncl * 3 + 2) r1) 9 2 (A 9 2 + 1)) G) (fun v M2 hp18 => ?_)
              obtain ⟨rfl, rfl⟩ := hp18
              show Go l ro0 mX5_clause 27 ((u2 (u2 (u2 (u2 A 10 (ncl * 3) p) 10 (ncl * 3 + 1) q) 10 (ncl * 3 + 2) r1) 9 2 (A 9 2 + 1)), G, PF) 68 [.ref 0, .int p, .int q, .int r1, .int 0] [.int (A 9 2 + 1)] 27 _
              refine go_goto (off := 5) 73 (by decide +kernel) (by decide) ?_
              exact go_reti (by decide +kernel) rfl (Or.inl ⟨⟨by rintro ⟨z1, z2⟩; contradiction, by assumption, by assumption, by assumption⟩, hlt, rfl, rfl⟩)
            · show Go l ro0 mX5_clause 27 (A, G, PF) 58 [.ref 0, .int p, .int q, .int r1, .int 0] [.int 0] 27 _
              refine go_ifz (cnd := .eq) (off := 13) 71 (by decide +kernel) (by decide) (fun _ => ?_) (fun (h : ¬ (0 : Int32) = 0) => absurd h (by decide))
              refine go_blk (pc2 := 73) (L2 := [.ref 0, .int p, .int q, .int r1, .int 0]) (st2 := [.int (-2)]) (M2 := (A, G, PF)) (hs2 := []) (C := True) [(.bipush (-2), 0, 0)] [] (by decide +kernel) rfl trivial ?_
              exact go_reti (by decide +kernel) rfl (Or.inr (Or.inl ⟨⟨by rintro ⟨z1, z2⟩; contradiction, by assumption, by assumption, by assumption⟩, hge, rfl, rfl⟩))
          · rw [bi_f hb16]
            show Go l ro0 mX5_clause 27 (A, G, PF) 43 [.ref 0, .int p, .int q, .int r1, .int 0] [.int 0] 27 _
            refine go_ifz (cnd := .ne) (off := 5) 48 (by decide +kernel) (by decide) (fun (h : ¬ (0 : Int32) = 0) => absurd h (by decide)) (fun _ => ?_)
            refine go_blk (pc2 := 47) (L2 := [.ref 0, .int p, .int q, .int r1, .int 0]) (st2 := [.int (-1)]) (M2 := (A, G, PF)) (hs2 := []) (C := True) [(.iconst (-1), 0, 0)] [] (by decide +kernel) rfl trivial ?_
            exact go_reti (by decide +kernel) rfl (Or.inr (Or.inr ⟨by rintro ⟨z1, z2, z3, z4⟩; first | contradiction | exact z1 ⟨by assumption, by assumption⟩, rfl, rfl⟩))
        · rw [bi_f hb14]
          show Go l ro0 mX5_clause 27 (A, G, PF) 35 [.ref 0, .int p, .int q, .int r1, .int 0] [.int 0] 27 _
          refine go_ifz (cnd := .eq) (off := 11) 46 (by decide +kernel) (by decide) (fun _ => ?_) (fun (h : ¬ (0 : Int32) = 0) => absurd h (by decide))
          refine go_blk (pc2 := 47) (L2 := [.ref 0, .int p, .int q, .int r1, .int 0]) (st2 := [.int (-1)]) (M2 := (A, G, PF)) (hs2 := []) (C := True) [(.iconst (-1), 0, 0)] [] (by decide +kernel) rfl trivial ?_
          exact go_reti (by decide +kernel) rfl (Or.inr (Or.inr ⟨by rintro ⟨z1, z2, z3, z4⟩; first | contradiction | exact z1 ⟨by assumption, by assumption⟩, rfl, rfl⟩))
      · rw [bi_f hb12]
        show Go l ro0 mX5_clause 27 (A, G, PF) 27 [.ref 0, .int p, .int q, .int r1, .int 0] [.int 0] 27 _
        refine go_ifz (cnd := .eq) (off := 19) 46 (by decide +kernel) (by decide) (fun _ => ?_) (fun (h : ¬ (0 : Int32) = 0) => absurd h (by decide))
        refine go_blk (pc2 := 47) (L2 := [.ref 0, .int p, .int q, .int r1, .int 0]) (st2 := [.int (-1)]) (M2 := (A, G, PF)) (hs2 := []) (C := True) [(.iconst (-1), 0, 0)] [] (by decide +kernel) rfl trivial ?_
        exact go_reti (by decide +kernel) rfl (Or.inr (Or.inr ⟨by rintro ⟨z1, z2, z3, z4⟩; first | contradiction | exact z1 ⟨by assumption, by assumption⟩, rfl, rfl⟩))
    · skip
      refine go_blk (pc2 := 11) (L2 := [.ref 0, .int p, .int q, .int r1, .null]) (st2 := [.int 1]) (M2 := (A, G, PF)) (hs2 := []) (C := True) [(.iconst 1, 0, 0)] [] (by decide +kernel) rfl trivial ?_
      refine go_goto (off := 4) 15 (by decide +kernel) (by decide) ?_
      refine go_blk (pc2 := 19) (L2 := [.ref 0, .int p, .int q, .int r1, .int 1]) (st2 := [.int 1]) (M2 := (A, G, PF)) (hs2 := []) (C := True) [(.istore 4, 0, 0), (.iload 4, 0, 0)] [] (by decide +kernel) rfl trivial ?_
      refine go_ifz (cnd := .ne) (off := 27) 46 (by decide +kernel) (by decide) (fun _ => ?_) (fun (h : (1 : Int32) = 0) => absurd h (by decide))
      refine go_blk (pc2 := 47) (L2 := [.ref 0, .int p, .int q, .int r1, .int 1]) (st2 := [.int (-1)]) (M2 := (A, G, PF)) (hs2 := []) (C := True) [(.iconst (-1), 0, 0)] [] (by decide +kernel) rfl trivial ?_
      exact go_reti (by decide +kernel) rfl (Or.inr (Or.inr ⟨by rintro ⟨z1, z2, z3, z4⟩; first | contradiction | exact z1 ⟨by assumption, by assumption⟩, rfl, rfl⟩))
set_option maxRecDepth 100000 in
set_option maxHeartbeats 4000000 in
theorem s_X5_push (l : Launch) (A : Nat → Nat → Int32) (G : Nat → Nat → Int64) (lv : Nat) (hlv : A 9 3 = nI lv) (hlv4 : lv ≤ 4) : Sem l mX5_push [.ref 0] 27 (A, G, PF) 27 (fun r M2 => (lv < 4 ∧ r = some (.int (A 9 3 + 1)) ∧ M2 = ((u2 (u2 A 11 lv (A 9 2)) 9 3 (A 9 3 + 1)), G, PF)) ∨ (lv = 4 ∧ r = some (.int (-2)) ∧ M2 = (A, G, PF))) := by
  refine sem_of_go (by decide) rfl (by decide) (by decide) rfl (Nat.le_of_ble_eq_true rfl) ?_
  show Go l ro0 mX5_push 27 (A, G, PF) 0 [.ref 0] [] 27 (fun r M2 => (lv < 4 ∧ r = some (.int (A 9 3 + 1)) ∧ M2 = ((u2 (u2 A 11 lv (A 9 2)) 9 3 (A 9 3 + 1)), G, PF)) ∨ (lv = 4 ∧ r = some (.int (-2)) ∧ M2 = (A, G, PF)))
  refine go_blk (pc2 := 4) (L2 := [.ref 0]) (st2 := [.ref 9]) (M2 := (A, G, PF)) (hs2 := []) (C := True) [(.aload_n 0, 0, 0), (.getfield 19, 5, 1)] [] (by decide +kernel) rfl trivial ?_
  refine go_call (Y2 := mX2_raise) (n2 := 27) (st := []) [.ref 9] [] ck_5_90 cwX2_raise rfl (by decide +kernel) rfl (fun h => absurd h (by decide)) (fun _ => ⟨9, rfl, by decide, rfl⟩) (Nat.le_of_ble_eq_true rfl) (Or.inl rfl) (fun _ _ _ h => h) (s_X2_raise l A G lv hlv hlv4) (fun v M2 hp1 => ?_)
  rcases hp1 with ⟨hlt, rfl, rfl⟩ | ⟨hge, rfl, rfl⟩
  · show Go l ro0 mX5_push 27 ((u2 (u2 A 11 lv (A 9 2)) 9 3 (A 9 3 + 1)), G, PF) 7 [.ref 0] [.int 1] 27 _
    refine go_ifz (cnd := .eq) (off := 13) 20 (by decide +kernel) (by decide) (fun (h : (1 : Int32) = 0) => absurd h (by decide)) (fun _ => ?_)
    refine go_blk (pc2 := 14) (L2 := [.ref 0]) (st2 := [.ref 9]) (M2 := ((u2 (u2 A 11 lv (A 9 2)) 9 3 (A 9 3 + 1)), G, PF)) (hs2 := []) (C := True) [(.aload_n 0, 0, 0), (.getfield 19, 5, 1)] [] (by decide +kernel) rfl trivial ?_
    refine go_call (Y2 := mX2_level) (n2 := 27) (st := []) [.ref 9] [] ck_5_94 cwX2_level rfl (by decide +kernel) rfl (fun h => absurd h (by decide)) (fun _ => ⟨9, rfl, by decide, rfl⟩) (Nat.le_of_ble_eq_true rfl) (Or.inl rfl) (fun _ _ _ h => h) (s_X2_level l (u2 (u2 A 11 lv (A 9 2)) 9 3 (A 9 3 + 1)) G) (fun v M2 hp2 => ?_)
    obtain ⟨rfl, rfl⟩ := hp2
    show Go l ro0 mX5_push 27 ((u2 (u2 A 11 lv (A 9 2)) 9 3 (A 9 3 + 1)), G, PF) 17 [.ref 0] [.int (A 9 3 + 1)] 27 _
    refine go_goto (off := 5) 22 (by decide +kernel) (by decide) ?_
    exact go_reti (by decide +kernel) rfl (Or.inl ⟨hlt, rfl, rfl⟩)
  · show Go l ro0 mX5_push 27 (A, G, PF) 7 [.ref 0] [.int 0] 27 _
    refine go_ifz (cnd := .eq) (off := 13) 20 (by decide +kernel) (by decide) (fun _ => ?_) (fun (h : ¬ (0 : Int32) = 0) => absurd h (by decide))
    refine go_blk (pc2 := 22) (L2 := [.ref 0]) (st2 := [.int (-2)]) (M2 := (A, G, PF)) (hs2 := []) (C := True) [(.bipush (-2), 0, 0)] [] (by decide +kernel) rfl trivial ?_
    exact go_reti (by decide +kernel) rfl (Or.inr ⟨hge, rfl, rfl⟩)
set_option maxRecDepth 100000 in
set_option maxHeartbeats 4000000 in
theorem s_X5_pop (l : Launch) (A : Nat → Nat → Int32) (G : Nat → Nat → Int64) (lv : Nat) (hlv : A 9 3 = nI lv) (hlv4 : lv ≤ 4) : Sem l mX5_pop [.ref 0] 27 (A, G, PF) 27 (fun r M2 => (0 < lv ∧ r = some (.int (A 9 3 - 1)) ∧ M2 = ((u2 (u2 A 9 3 ((A 9 3) - 1)) 9 2 (A 11 (lv - 1))), G, PF)) ∨ (lv = 0 ∧ r = some (.int (-1)) ∧ M2 = (A, G, PF))) := by
  refine sem_of_go (by decide) rfl (by decide) (by decide) rfl (Nat.le_of_ble_eq_true rfl) ?_
  show Go l ro0 mX5_pop 27 (A, G, PF) 0 [.ref 0] [] 27 (fun r M2 => (0 < lv ∧ r = some (.int (A 9 3 - 1)) ∧ M2 = ((u2 (u2 A 9 3 ((A 9 3) - 1)) 9 2 (A 11 (lv - 1))), G, PF)) ∨ (lv = 0 ∧ r = some (.int (-1)) ∧ M2 = (A, G, PF)))
  refine go_blk (pc2 := 4) (L2 := [.ref 0]) (st2 := [.ref 9]) (M2 := (A, G, PF)) (hs2 := []) (C := True) [(.aload_n 0, 0, 0), (.getfield 19, 5, 1)] [] (by decide +kernel) rfl trivial ?_
  refine go_call (Y2 := mX2_lower) (n2 := 27) (st := []) [.ref 9] [] ck_5_97 cwX2_lower rfl (by decide +kernel) rfl (fun h => absurd h (by decide)) (fun _ => ⟨9, rfl, by decide, rfl⟩) (Nat.le_of_ble_eq_true rfl) (Or.inl rfl) (fun _ _ _ h => h) (s_X2_lower l A G lv hlv hlv4) (fun v M2 hp1 => ?_)
  rcases hp1 with ⟨hlt, rfl, rfl⟩ | ⟨hge, rfl, rfl⟩
  · show Go l ro0 mX5_pop 27 ((u2 (u2 A 9 3 ((A 9 3) - 1)) 9 2 (A 11 (lv - 1))), G, PF) 7 [.ref 0] [.int 1] 27 _
    refine go_ifz (cnd := .eq) (off := 13) 20 (by decide +kernel) (by decide) (fun (h : (1 : Int32) = 0) => absurd h (by decide)) (fun _ => ?_)
    refine go_blk (pc2 := 14) (L2 := [.ref 0]) (st2 := [.ref 9]) (M2 := ((u2 (u2 A 9 3 ((A 9 3) - 1)) 9 2 (A 11 (lv - 1))), G, PF)) (hs2 := []) (C := True) [(.aload_n 0, 0, 0), (.getfield 19, 5, 1)] [] (by decide +kernel) rfl trivial ?_
    refine go_call (Y2 := mX2_level) (n2 := 27) (st := []) [.ref 9] [] ck_5_94 cwX2_level rfl (by decide +kernel) rfl (fun h => absurd h (by decide)) (fun _ => ⟨9, rfl, by decide, rfl⟩) (Nat.le_of_ble_eq_true rfl) (Or.inl rfl) (fun _ _ _ h => h) (s_X2_level l (u2 (u2 A 9 3 ((A 9 3) - 1)) 9 2 (A 11 (lv - 1))) G) (fun v M2 hp2 => ?_)
    obtain ⟨rfl, rfl⟩ := hp2
    show Go l ro0 mX5_pop 27 ((u2 (u2 A 9 3 ((A 9 3) - 1)) 9 2 (A 11 (lv - 1))), G, PF) 17 [.ref 0] [.int ((A 9 3) - 1)] 27 _
    refine go_goto (off := 4) 21 (by decide +kernel) (by decide) ?_
    exact go_reti (by decide +kernel) rfl (Or.inl ⟨hlt, rfl, rfl⟩)
  · show Go l ro0 mX5_pop 27 (A, G, PF) 7 [.ref 0] [.int 0] 27 _
    refine go_ifz (cnd := .eq) (off := 13) 20 (by decide +kernel) (by decide) (fun _ => ?_) (fun (h : ¬ (0 : Int32) = 0) => absurd h (by decide))
    refine go_blk (pc2 := 21) (L2 := [.ref 0]) (st2 := [.int (-1)]) (M2 := (A, G, PF)) (hs2 := []) (C := True) [(.iconst (-1), 0, 0)] [] (by decide +kernel) rfl trivial ?_
    exact go_reti (by decide +kernel) rfl (Or.inr ⟨hge, rfl, rfl⟩)
set_option maxRecDepth 100000 in
set_option maxHeartbeats 4000000 in
theorem s_X5_refresh (l : Launch) (A : Nat → Nat → Int32) (G : Nat → Nat → Int64) (dm ncl : Nat) (hK : KI A dm ncl) (hst : A 0 5 = 0 → ∃ cnt, CacheI A cnt) : Sem l mX5_refresh [.ref 0] 27 (A, G, PF) 27 (fun r M2 => r = none ∧ ∃ A2 cnt, M2 = (A2, G, PF) ∧ CacheI A2 cnt ∧ RfF A A2 ∧ Z5 A A2) := by
  refine sem_of_go (by decide) rfl (by decide) (by decide) rfl (Nat.le_of_ble_eq_true rfl) ?_
  show Go l ro0 mX5_refresh 27 (A, G, PF) 0 [.ref 0] [] 27 (fun r M2 => r = none ∧ ∃ A2 cnt, M2 = (A2, G, PF) ∧ CacheI A2 cnt ∧ RfF A A2 ∧ Z5 A A2)
  refine go_blk (pc2 := 4) (L2 := [.ref 0]) (st2 := [.int (A 0 5)]) (M2 := (A, G, PF)) (hs2 := []) (C := True) [(.aload_n 0, 0, 0), (.getfield 44, 5, 5)] [] (by decide +kernel) rfl trivial ?_
  refine go_ifz (cnd := .eq) (off := 34) 38 (by decide +kernel) (by decide) (fun (c1 : (A 0 5) = 0) => ?_) (fun (c1 : ¬ (A 0 5) = 0) => ?_)
  · skip
    exact go_retv (by decide +kernel) rfl (⟨rfl, A, (hst (by assumption)).choose, rfl, (hst (by assumption)).choose_spec, RfF.rf A, by assumption, fun _ => rfl⟩)
  · skip
    refine go_blk (pc2 := 15) (L2 := [.ref 0]) (st2 := [.ref 1, .ref 12]) (M2 := (A, G, PF)) (hs2 := []) (C := True) [(.aload_n 0, 0, 0), (.getfield 26, 5, 2), (.aload_n 0, 0, 0), (.getfield 12, 5, 0)] [] (by decide +kernel) rfl trivial ?_
    refine go_call (Y2 := mX3_rebuild) (n2 := 27) (st := []) [.ref 12] [.ref 1] ck_5_139 cwX3_rebuild rfl (by decide +kernel) rfl (fun h => absurd h (by decide)) (fun _ => ⟨12, rfl, by decide, rfl⟩) (Nat.le_of_ble_eq_true rfl) (Or.inl rfl) (fun _ _ _ h => h) (s_X3_rebuild l A G) (fun v M2 hp2 => ?_)
    obtain ⟨rfl, A2, cnt, rfl, h364, hCI⟩ := hp2
    show Go l ro0 mX5_refresh 27 (A2, G, PF) 18 [.ref 0] [] 27 _
    refine go_blk (pc2 := 30) (L2 := [.ref 0]) (st2 := [.ref 12, .ref 1, .ref 22]) (M2 := (A2, G, PF)) (hs2 := []) (C := True) [(.aload_n 0, 0, 0), (.getfield 33, 5, 3), (.aload_n 0, 0, 0), (.getfield 12, 5, 0), (.aload_n 0, 0, 0), (.getfield 26, 5, 2)] [] (by decide +kernel) rfl trivial ?_
    refine go_call (Y2 := mX1_rebuild) (n2 := 27) (st := []) [.ref 22] [.ref 1, .ref 12] ck_5_143 cwX1_rebuild rfl (by decide +kernel) rfl (fun h => absurd h (by decide)) (fun _ => ⟨22, rfl, by decide, rfl⟩) (Nat.le_of_ble_eq_true rfl) (Or.inl rfl) (fun _ _ _ h => h) (s_X1_rebuild l A2 G cnt hCI.2.2.1 h364 (FOk_c (by rw [hCI.1 2 (by decide) (by decide), u2_row (by decide)]; exact cpy_o (by decide) 5) (by rw [hCI.1 7 (by decide) (by decide), u2_row (by decide)]; exact cpy_o (by decide) 5) (by rw [hCI.1 8 (by decide) (by decide), u2_row (by decide)]; exact cpy_o (by decide) 5) hK.1)) (fun v M2 hp3 => ?_)
    obtain ⟨rfl, A3, rfl, hC3⟩ := hp3
    show Go l ro0 mX5_refresh 27 (A3, G, PF) 33 [.ref 0] [] 27 _
    refine go_blk (pc2 := 38) (L2 := [.ref 0]) (st2 := []) (M2 := ((u2 A3 0 5 0), G, PF)) (hs2 := []) (C := (0 = 0 ∨ 0 = 1) ∧ True) [(.aload_n 0, 0, 0), (.iconst 0, 0, 0), (.putfield 44, 5, 5)] [] (by decide +kernel) rfl ⟨Or.inl rfl, trivial⟩ ?_
    exact go_retv (by decide +kernel) rfl (⟨rfl, _, cnt, rfl, refreshed (by assumption) h364 hCI hC3⟩)
set_option maxRecDepth 100000 in
set_option maxHeartbeats 4000000 in
theorem s_X5_isWorld (l : Launch) (A : Nat → Nat → Int32) (G : Nat → Nat → Int64) (dm ncl : Nat) (hK : KI A dm ncl) (s : Nat) (hs : s < 32) : Sem l mX5_isWorld [.ref 0, .int (nI s)] 27 (A, G, PF) 27 (pv (bi (Wd A dm ncl s)) (A, G, PF)) := by
  refine sem_of_go (by decide) rfl (by decide) (by decide) rfl (Nat.le_of_ble_eq_true rfl) ?_
  show Go l ro0 mX5_isWorld 27 (A, G, PF) 0 [.ref 0, .int (nI s)] [] 27 (pv (bi (Wd A dm ncl s)) (A, G, PF))
  refine go_blk (pc2 := 5) (L2 := [.ref 0, .int (nI s)]) (st2 := [.ref 1, .int (nI s)]) (M2 := (A, G, PF)) (hs2 := []) (C := True) [(.iload_n 1, 0, 0), (.aload_n 0, 0, 0), (.getfield 12, 5, 0)] [] (by decide +kernel) rfl trivial ?_
  refine go_call (Y2 := mX0_defined) (n2 := 27) (st := [.int (nI s)]) [.ref 1] [] ck_5_106 cwX0_defined rfl (by decide +kernel) rfl (fun h => absurd h (by decide)) (fun _ => ⟨1, rfl, by decide, rfl⟩) (Nat.le_of_ble_eq_true rfl) (Or.inl rfl) (fun _ _ _ h => h) (s_X0_defined l A G) (fun v M2 hp1 => ?_)
  obtain ⟨rfl, rfl⟩ := hp1
  show Go l ro0 mX5_isWorld 27 (A, G, PF) 8 [.ref 0, .int (nI s)] [.int (A 1 7), .int (nI s)] 27 _
  refine go_blk (pc2 := 11) (L2 := [.ref 0, .int (nI s)]) (st2 := [.int ((nI s) &&& ((A 1 7) ^^^ (-1)))]) (M2 := (A, G, PF)) (hs2 := []) (C := True) [(.iconst (-1), 0, 0), (.ixor, 0, 0), (.iand, 0, 0)] [] (by decide +kernel) rfl trivial ?_
  refine go_ifz (cnd := .ne) (off := 29) 40 (by decide +kernel) (by decide) (fun (c2 : ¬ ((nI s) &&& ((A 1 7) ^^^ (-1))) = 0) => ?_) (fun (c2 : ((nI s) &&& ((A 1 7) ^^^ (-1))) = 0) => ?_)
  · skip
    rw [hK.2.2.1, sub_ok s hs dm hK.2.2.2.1] at c2
    refine go_blk (pc2 := 41) (L2 := [.ref 0, .int (nI s)]) (st2 := [.int 0]) (M2 := (A, G, PF)) (hs2 := []) (C := True) [(.iconst 0, 0, 0)] [] (by decide +kernel) rfl trivial ?_
    exact go_retz (by decide +kernel) rfl (Or.inl rfl) (pv0 (by rintro ⟨z1, z2, z3⟩; contradiction))
  · skip
    rw [hK.2.2.1, sub_ok s hs dm hK.2.2.2.1] at c2
    refine go_blk (pc2 := 19) (L2 := [.ref 0, .int (nI s)]) (st2 := [.int (nI s), .ref 22]) (M2 := (A, G, PF)) (hs2 := []) (C := True) [(.aload_n 0, 0, 0), (.getfield 33, 5, 3), (.iload_n 1, 0, 0)] [] (by decide +kernel) rfl trivial ?_
    refine go_call (Y2 := mX1_isOpenSomewhere) (n2 := 27) (st := []) [.ref 22] [.int (nI s)] ck_5_146 cwX1_isOpenSomewhere rfl (by decide +kernel) rfl (fun h => absurd h (by decide)) (fun _ => ⟨22, rfl, by decide, rfl⟩) (Nat.le_of_ble_eq_true rfl) (Or.inl rfl) (fun _ _ _ h => h) (s_X1_isOpenSomewhere l A G s (by omega)) (fun v M2 hp3 => ?_)
    obtain ⟨rfl, rfl⟩ := hp3
    rcases Classical.em (∃ p, p < 5 ∧ ¬ A 23 (s * 5 + p) = 0) with hb4 | hb4
    · rw [bi_t hb4]
      show Go l ro0 mX5_isWorld 27 (A, G, PF) 22 [.ref 0, .int (nI s)] [.int 1] 27 _
      refine go_ifz (cnd := .eq) (off := 18) 40 (by decide +kernel) (by decide) (fun (h : (1 : Int32) = 0) => absurd h (by decide)) (fun _ => ?_)
      refine go_blk (pc2 := 30) (L2 := [.ref 0, .int (nI s)]) (st2 := [.int (nI s), .ref 9]) (M2 := (A, G, PF)) (hs2 := []) (C := True) [(.aload_n 0, 0, 0), (.getfield 19, 5, 1), (.iload_n 1, 0, 0)] [] (by decide +kernel) rfl trivial ?_
      refine go_call (Y2 := mX2_areSatisfiedBy) (n2 := 27) (st := []) [.ref 9] [.int (nI s)] ck_5_149 cwX2_areSatisfiedBy rfl (by decide +kernel) rfl (fun h => absurd h (by decide)) (fun _ => ⟨9, rfl, by decide, rfl⟩) (Nat.le_of_ble_eq_true rfl) (Or.inl rfl) (fun _ _ _ h => h) (s_X2_areSatisfiedBy l A G hK.2.1 ncl hK.2.2.2.2.1 hK.2.2.2.2.2 s hs) (fun v M2 hp5 => ?_)
      obtain ⟨rfl, rfl⟩ := hp5
      rcases Classical.em (SatC A s ncl) with hb6 | hb6
      · rw [bi_t hb6]
        show Go l ro0 mX5_isWorld 27 (A, G, PF) 33 [.ref 0, .int (nI s)] [.int 1] 27 _
        refine go_ifz (cnd := .eq) (off := 7) 40 (by decide +kernel) (by decide) (fun (h : (1 : Int32) = 0) => absurd h (by decide)) (fun _ => ?_)
        refine go_blk (pc2 := 37) (L2 := [.ref 0, .int (nI s)]) (st2 := [.int 1]) (M2 := (A, G, PF)) (hs2 := []) (C := True) [(.iconst 1, 0, 0)] [] (by decide +kernel) rfl trivial ?_
        refine go_goto (off := 4) 41 (by decide +kernel) (by decide) ?_
        exact go_retz (by decide +kernel) rfl (Or.inr rfl) (pv1 ⟨by assumption, by assumption, by assumption⟩)
      · rw [bi_f hb6]
        show Go l ro0 mX5_isWorld 27 (A, G, PF) 33 [.ref 0, .int (nI s)] [.int 0] 27 _
        refine go_ifz (cnd := .eq) (off := 7) 40 (by decide +kernel) (by decide) (fun _ => ?_) (fun (h : ¬ (0 : Int32) = 0) => absurd h (by decide))
        refine go_blk (pc2 := 41) (L2 := [.ref 0, .int (nI s)]) (st2 := [.int 0]) (M2 := (A, G, PF)) (hs2 := []) (C := True) [(.iconst 0, 0, 0)] [] (by decide +kernel) rfl trivial ?_
        exact go_retz (by decide +kernel) rfl (Or.inl rfl) (pv0 (by rintro ⟨z1, z2, z3⟩; contradiction))
    · rw [bi_f hb4]
      show Go l ro0 mX5_isWorld 27 (A, G, PF) 22 [.ref 0, .int (nI s)] [.int 0] 27 _
      refine go_ifz (cnd := .eq) (off := 18) 40 (by decide +kernel) (by decide) (fun _ => ?_) (fun (h : ¬ (0 : Int32) = 0) => absurd h (by decide))
      refine go_blk (pc2 := 41) (L2 := [.ref 0, .int (nI s)]) (st2 := [.int 0]) (M2 := (A, G, PF)) (hs2 := []) (C := True) [(.iconst 0, 0, 0)] [] (by decide +kernel) rfl trivial ?_
      exact go_retz (by decide +kernel) rfl (Or.inl rfl) (pv0 (by rintro ⟨z1, z2, z3⟩; contradiction))
