def AnyP (A : Nat → Nat → Int32) (s cnt k : Nat) : Prop := ∃ p, p < k ∧ PosV A s p cnt
def WdM (A : Nat → Nat → Int32) (ncl s cnt : Nat) : Prop := AnyP A s cnt 5 ∧ SatM A s ncl
theorem bi_or (p q : Prop) : bi p ||| bi q = bi (p ∨ q) := by
  rcases Classical.em p with h | h <;> rcases Classical.em q with h2 | h2
  · rw [bi_t h, bi_t h2, bi_t (Or.inl h)]; rfl
  · rw [bi_t h, bi_f h2, bi_t (Or.inl h)]; rfl
  · rw [bi_f h, bi_t h2, bi_t (Or.inr h2)]; rfl
  · rw [bi_f h, bi_f h2, bi_f (fun z => z.elim h h2)]; rfl
theorem anyS (A : Nat → Nat → Int32) (s cnt k : Nat) : bi (AnyP A s cnt k) ||| bi (PosV A s k cnt) = bi (AnyP A s cnt (k + 1)) := by
  rw [bi_or]
  apply bi_c
  constructor
  · rintro (⟨p, h1, h2⟩ | h)
    · exact ⟨p, by omega, h2⟩
    · exact ⟨k, by omega, h⟩
  · rintro ⟨p, h1, h2⟩
    by_cases e : p = k
    · subst e; exact Or.inr h2
    · exact Or.inl ⟨p, by omega, h2⟩
theorem any0 (A : Nat → Nat → Int32) (s cnt : Nat) : bi (AnyP A s cnt 0) = 0 := bi_f (fun ⟨p, h, _⟩ => absurd h (by omega))
theorem LitOkM.kn {A A2 : Nat → Nat → Int32} (h : LitOkM A) (hk : KnF A A2) : LitOkM A2 := by
  simpa only [LitOkM, litM, hk.1 30 (by omega) (by decide)] using h
theorem KnF.n {A A2 : Nat → Nat → Int32} (hk : KnF A A2) : A2 27 4 = A 27 4 := hk.2 4 (by decide) (by decide) (by decide) (by decide) (by decide)
theorem bi_nz {p : Prop} : ¬ bi p = 0 ↔ p := by
  constructor
  · intro h
    exact Classical.byContradiction fun q => h (bi_f q)
  · intro h q
    rw [bi_t h] at q
    cases q
/-- after the cells are known, an answer that is read off the memory then -/
def rmp (A : Nat → Nat → Int32) (G : Nat → Nat → Int64) (E : (Nat → Nat → Int32) → Nat → Int32) : Option Value → Mem → Prop := fun r M2 => ∃ A2 cnt, M2 = (A2, G, PF) ∧ MCache A2 cnt ∧ KnF A A2 ∧ A2 27 6 = 1 ∧ r = some (.int (E A2 cnt))
set_option maxRecDepth 100000 in
set_option maxHeartbeats 4000000 in
theorem lp_X6_isWorld (l : Launch) (A : Nat → Nat → Int32) (G : Nat → Nat → Int64) (hL : LitOkM A) (ncl : Nat) (hn : A 27 4 = nI ncl) (hn8 : ncl ≤ 8) (cnt : Nat) (hC : MCache A cnt) (hk1 : A 27 6 = 1) (s : Nat) (hs : s < 32) : ∀ p, p ≤ 5 → Go l ro0 mX6_isWorld 39 (A, G, PF) 8 [.ref 27, .int (nI s), .int (bi (AnyP A s cnt p)), .int (nI p)] [] 39 (pv (bi (WdM A ncl s cnt)) (A, G, PF)) := by
  refine down 5 (fun p hk ih  => ?_)
  refine go_blk (pc2 := 10) (L2 := [.ref 27, .int (nI s), .int (bi (AnyP A s cnt p)), .int (nI p)]) (st2 := [.int 5, .int (nI p)]) (M2 := (A, G, PF)) (hs2 := []) (C := True) [(.iload_n 3, 0, 0), (.iconst 5, 0, 0)] [] (by decide +kernel) rfl trivial ?_
  refine go_cmp (cnd := .ge) (off := 22) 32 (by decide +kernel) (by decide) (fun (c1 : 5 ≤ (nI p)) => ?_) (fun (c1 : ¬ 5 ≤ (nI p)) => ?_)
  · skip
    replace c1 : 5 ≤ p := (nx_le (a := 5) (b := p) rfl rfl (by omega) (by omega)).mp c1
    refine go_blk (pc2 := 33) (L2 := [.ref 27, .int (nI s), .int (bi (AnyP A s cnt p)), .int (nI p)]) (st2 := [.int (bi (AnyP A s cnt p))]) (M2 := (A, G, PF)) (hs2 := []) (C := True) [(.iload_n 2, 0, 0)] [] (by decide +kernel) rfl trivial ?_
    refine go_ifz (cnd := .eq) (off := 15) 48 (by decide +kernel) (by decide) (fun (c2 : (bi (AnyP A s cnt p)) = 0) => ?_) (fun (c2 : ¬ (bi (AnyP A s cnt p)) = 0) => ?_)
    · skip
      rw [show p = 5 by omega] at c2
      replace c2 := bi_z.mp c2
      refine go_blk (pc2 := 49) (L2 := [.ref 27, .int (nI s), .int (bi (AnyP A s cnt p)), .int (nI p)]) (st2 := [.int 0]) (M2 := (A, G, PF)) (hs2 := []) (C := True) [(.iconst 0, 0, 0)] [] (by decide +kernel) rfl trivial ?_
      exact go_retz (by decide +kernel) rfl (Or.inl rfl) (pv0 (by rintro ⟨z1, z2⟩; contradiction))
    · skip
      rw [show p = 5 by omega] at c2
      replace c2 := bi_nz.mp c2
      refine go_blk (pc2 := 38) (L2 := [.ref 27, .int (nI s), .int (bi (AnyP A s cnt p)), .int (nI p)]) (st2 := [.int (nI s), .ref 27]) (M2 := (A, G, PF)) (hs2 := []) (C := True) [(.aload_n 0, 0, 0), (.iload_n 1, 0, 0)] [] (by decide +kernel) rfl trivial ?_
      refine go_call (Y2 := mX6_satisfies) (n2 := 39) (st := []) [.ref 27] [.int (nI s)] ck_6_133 cwX6_satisfies rfl (by decide +kernel) rfl (fun h => absurd h (by decide)) (fun _ => ⟨27, rfl, by decide, rfl⟩) (Nat.le_of_ble_eq_true rfl) (Or.inl rfl) (fun _ _ _ h => h) (s_X6_satisfies l A G hL ncl hn hn8 s hs) (fun v M2 hp3 => ?_)
      obtain ⟨rfl, rfl⟩ := hp3
      rcases Classical.em (SatM A s ncl) with hb4 | hb4
      · rw [bi_t hb4]
        show Go l ro0 mX6_isWorld 39 (A, G, PF) 41 [.ref 27, .int (nI s), .int (bi (AnyP A s cnt p)), .int (nI p)] [.int 1] 39 _
        refine go_ifz (cnd := .eq) (off := 7) 48 (by decide +kernel) (by decide) (fun (h : (1 : Int32) = 0) => absurd h (by decide)) (fun _ => ?_)
        refine go_blk (pc2 := 45) (L2 := [.ref 27, .int (nI s), .int (bi (AnyP A s cnt p)), .int (nI p)]) (st2 := [.int 1]) (M2 := (A, G, PF)) (hs2 := []) (C := True) [(.iconst 1, 0, 0)] [] (by decide +kernel) rfl trivial ?_
        refine go_goto (off := 4) 49 (by decide +kernel) (by decide) ?_
        exact go_retz (by decide +kernel) rfl (Or.inr rfl) (pv1 ⟨by assumption, by assumption⟩)
      · rw [bi_f hb4]
        show Go l ro0 mX6_isWorld 39 (A, G, PF) 41 [.ref 27, .int (nI s), .int (bi (AnyP A s cnt p)), .int (nI p)] [.int 0] 39 _
        refine go_ifz (cnd := .eq) (off := 7) 48 (by decide +kernel) (by decide) (fun _ => ?_) (fun (h : ¬ (0 : Int32) = 0) => absurd h (by decide))
        refine go_blk (pc2 := 49) (L2 := [.ref 27, .int (nI s), .int (bi (AnyP A s cnt p)), .int (nI p)]) (st2 := [.int 0]) (M2 := (A, G, PF)) (hs2 := []) (C := True) [(.iconst 0, 0, 0)] [] (by decide +kernel) rfl trivial ?_
        exact go_retz (by decide +kernel) rfl (Or.inl rfl) (pv0 (by rintro ⟨z1, z2⟩; contradiction))
  · skip
    replace c1 : ¬ 5 ≤ p := fun zz => c1 ((nx_le (a := 5) (b := p) rfl rfl (by omega) (by omega)).mpr zz)
    refine go_blk (pc2 := 29) (L2 := [.ref 27, .int (nI s), .int ((bi (AnyP A s cnt p)) ||| (A 38 ((5 * s) + p))), .int ((nI p) + 1)]) (st2 := []) (M2 := (A, G, PF)) (hs2 := []) (C := (((5 * (nI s)) + (nI p)) = nI ((5 * s) + p) ∧ ((5 * s) + p) < 160) ∧ True) [(.iload_n 2, 0, 0), (.aload_n 0, 0, 0), (.getfield 40, 6, 15), (.iconst 5, 0, 0), (.iload_n 1, 0, 0), (.imul, 0, 0), (.iload_n 3, 0, 0), (.iadd, 0, 0), (.baload, 0, 0), (.ior, 0, 0), (.istore_n 2, 0, 0), (.iinc 3 1, 0, 0)] [((5 * s) + p)] (by decide +kernel) rfl ⟨⟨(by first | rfl | (simp only [nI, Int32.ofNat_add, Int32.ofNat_mul]; done) | (simp only [nI, Int32.ofNat_add, Int32.ofNat_mul]; rfl)), by omega⟩, trivial⟩ ?_
    refine go_goto (off := -21) 8 (by decide +kernel) (by decide) ?_
    exact go_as (ih (by omega) ) rfl (by rw [hC.2.2.2.2.2 s p hs (by omega), anyS, nI_1]) rfl
set_option maxRecDepth 100000 in
set_option maxHeartbeats 4000000 in
theorem s_X6_isWorldK (l : Launch) (A : Nat → Nat → Int32) (G : Nat → Nat → Int64) (hL : LitOkM A) (ncl : Nat) (hn : A 27 4 = nI ncl) (hn8 : ncl ≤ 8) (cnt : Nat) (hC : MCache A cnt) (hk1 : A 27 6 = 1) (s : Nat) (hs : s < 32) : Sem l mX6_isWorld [.ref 27, .int (nI s)] 39 (A, G, PF) 39 (pv (bi (WdM A ncl s cnt)) (A, G, PF)) := by
  refine sem_of_go (by decide) rfl (by decide) (by decide) rfl (Nat.le_of_ble_eq_true rfl) ?_
  show Go l ro0 mX6_isWorld 39 (A, G, PF) 0 [.ref 27, .int (nI s), .null, .null] [] 39 (pv (bi (WdM A ncl s cnt)) (A, G, PF))
  refine go_blk (pc2 := 1) (L2 := [.ref 27, .int (nI s), .null, .null]) (st2 := [.ref 27]) (M2 := (A, G, PF)) (hs2 := []) (C := True) [(.aload_n 0, 0, 0)] [] (by decide +kernel) rfl trivial ?_
  refine go_call (Y2 := mX6_know) (n2 := 39) (st := []) [.ref 27] [] ck_6_130 cwX6_know rfl (by decide +kernel) rfl (fun h => absurd h (by decide)) (fun _ => ⟨27, rfl, by decide, rfl⟩) (Nat.le_of_ble_eq_true rfl) (Or.inl rfl) (fun _ _ _ h => h) (s_X6_knowK l A G hk1) (fun v M2 hp1 => ?_)
  obtain ⟨rfl, rfl⟩ := hp1
  show Go l ro0 mX6_isWorld 39 (A, G, PF) 4 [.ref 27, .int (nI s), .null, .null] [] 39 _
  refine go_blk (pc2 := 8) (L2 := [.ref 27, .int (nI s), .int 0, .int 0]) (st2 := []) (M2 := (A, G, PF)) (hs2 := []) (C := True) [(.iconst 0, 0, 0), (.istore_n 2, 0, 0), (.iconst 0, 0, 0), (.istore_n 3, 0, 0)] [] (by decide +kernel) rfl trivial ?_
  exact go_as (lp_X6_isWorld l A G hL ncl hn hn8 cnt hC hk1 s hs 0 (by omega)) rfl (by rw [any0]; rfl) rfl
set_option maxRecDepth 100000 in
set_option maxHeartbeats 4000000 in
theorem s_X6_isWorld (l : Launch) (A : Nat → Nat → Int32) (G : Nat → Nat → Int64) (hL : LitOkM A) (ncl : Nat) (hn : A 27 4 = nI ncl) (hn8 : ncl ≤ 8) (hpt : ∀ p, p < 5 → A 37 p = nI (part p)) (hkn : ¬ A 27 6 = 0 → A 27 6 = 1 ∧ ∃ cnt, MCache A cnt) (s : Nat) (hs : s < 32) : Sem l mX6_isWorld [.ref 27, .int (nI s)] 39 (A, G, PF) 39 (rmp A G (fun A2 cnt => bi (WdM A2 ncl s cnt))) := by
  refine sem_of_go (by decide) rfl (by decide) (by decide) rfl (Nat.le_of_ble_eq_true rfl) ?_
  show Go l ro0 mX6_isWorld 39 (A, G, PF) 0 [.ref 27, .int (nI s), .null, .null] [] 39 (rmp A G (fun A2 cnt => bi (WdM A2 ncl s cnt)))
  refine go_blk (pc2 := 1) (L2 := [.ref 27, .int (nI s), .null, .null]) (st2 := [.ref 27]) (M2 := (A, G, PF)) (hs2 := []) (C := True) [(.aload_n 0, 0, 0)] [] (by decide +kernel) rfl trivial ?_
  refine go_call (Y2 := mX6_know) (n2 := 39) (st := []) [.ref 27] [] ck_6_130 cwX6_know rfl (by decide +kernel) rfl (fun h => absurd h (by decide)) (fun _ => ⟨27, rfl, by decide, rfl⟩) (Nat.le_of_ble_eq_true rfl) (Or.inl rfl) (fun _ _ _ h => h) (s_X6_know l A G hpt hkn) (fun v M2 hp1 => ?_)
  obtain ⟨rfl, A2, cnt, rfl, hC, hKn, hk1⟩ := hp1
  show Go l ro0 mX6_isWorld 39 (A2, G, PF) 4 [.ref 27, .int (nI s), .null, .null] [] 39 _
  refine go_blk (pc2 := 8) (L2 := [.ref 27, .int (nI s), .int 0, .int 0]) (st2 := []) (M2 := (A2, G, PF)) (hs2 := []) (C := True) [(.iconst 0, 0, 0), (.istore_n 2, 0, 0), (.iconst 0, 0, 0), (.istore_n 3, 0, 0)] [] (by decide +kernel) rfl trivial ?_
  refine Go.mono (go_as (lp_X6_isWorld l A2 G (hL.kn hKn) ncl (hKn.n.trans hn) hn8 cnt hC hk1 s hs 0 (by omega)) rfl (by rw [any0]; rfl) rfl) ?_
  rintro _ _ ⟨rfl, rfl⟩
  exact ⟨A2, cnt, rfl, hC, hKn, hk1, rfl⟩
noncomputable def cntM (A : Nat → Nat → Int32) (ncl cnt : Nat) (P : Nat → Prop) : Nat → Nat
  | 0 => 0
  | s + 1 => @ite Nat (WdM A ncl s cnt ∧ P s) (Classical.propDecidable _) (cntM A ncl cnt P s + 1) (cntM A ncl cnt P s)
theorem cntM_t {A : Nat → Nat → Int32} {ncl cnt s : Nat} {P : Nat → Prop} (h : WdM A ncl s cnt) (h2 : P s) : cntM A ncl cnt P (s + 1) = cntM A ncl cnt P s + 1 := if_pos ⟨h, h2⟩
theorem cntM_f {A : Nat → Nat → Int32} {ncl cnt s : Nat} {P : Nat → Prop} (h : ¬ (WdM A ncl s cnt ∧ P s)) : cntM A ncl cnt P (s + 1) = cntM A ncl cnt P s := if_neg h
theorem cntM_le (A : Nat → Nat → Int32) (ncl cnt : Nat) (P : Nat → Prop) (s : Nat) : cntM A ncl cnt P s ≤ s := by
  induction s with
  | zero => exact Nat.le_refl _
  | succ s ih =>
    rcases Classical.em (WdM A ncl s cnt ∧ P s) with q | q
    · rw [cntM_t q.1 q.2]; omega
    · rw [cntM_f q]; omega
def tru : Nat → Prop := fun _ => True
set_option maxRecDepth 100000 in
set_option maxHeartbeats 4000000 in
theorem lp_X6_worlds (l : Launch) (A : Nat → Nat → Int32) (G : Nat → Nat → Int64) (hL : LitOkM A) (ncl : Nat) (hn : A 27 4 = nI ncl) (hn8 : ncl ≤ 8) (cnt : Nat) (hC : MCache A cnt) (hk1 : A 27 6 = 1) : ∀ s, s ≤ 32 → Go l ro0 mX6_worlds 39 (A, G, PF) 4 [.ref 27, .int (nI (cntM A ncl cnt tru s)), .int (nI s)] [] 39 (pv (nI (cntM A ncl cnt tru 32)) (A, G, PF)) := by
  refine down 32 (fun s hk ih  => ?_)
  refine go_blk (pc2 := 7) (L2 := [.ref 27, .int (nI (cntM A ncl cnt tru s)), .int (nI s)]) (st2 := [.int 32, .int (nI s)]) (M2 := (A, G, PF)) (hs2 := []) (C := True) [(.iload_n 2, 0, 0), (.bipush 32, 0, 0)] [] (by decide +kernel) rfl trivial ?_
  refine go_cmp (cnd := .ge) (off := 20) 27 (by decide +kernel) (by decide) (fun (c1 : 32 ≤ (nI s)) => ?_) (fun (c1 : ¬ 32 ≤ (nI s)) => ?_)
  · skip
    replace c1 : 32 ≤ s := (nx_le (a := 32) (b := s) rfl rfl (by omega) (by omega)).mp c1
    refine go_blk (pc2 := 28) (L2 := [.ref 27, .int (nI (cntM A ncl cnt tru s)), .int (nI s)]) (st2 := [.int (nI (cntM A ncl cnt tru s))]) (M2 := (A, G, PF)) (hs2 := []) (C := True) [(.iload_n 1, 0, 0)] [] (by decide +kernel) rfl trivial ?_
    exact go_reti (by decide +kernel) rfl (pve (by rw [show s = 32 by omega]))
  · skip
    replace c1 : ¬ 32 ≤ s := fun zz => c1 ((nx_le (a := 32) (b := s) rfl rfl (by omega) (by omega)).mpr zz)
    refine go_blk (pc2 := 12) (L2 := [.ref 27, .int (nI (cntM A ncl cnt tru s)), .int (nI s)]) (st2 := [.int (nI s), .ref 27]) (M2 := (A, G, PF)) (hs2 := []) (C := True) [(.aload_n 0, 0, 0), (.iload_n 2, 0, 0)] [] (by decide +kernel) rfl trivial ?_
    refine go_call (Y2 := mX6_isWorld) (n2 := 39) (st := []) [.ref 27] [.int (nI s)] ck_6_136 cwX6_isWorld rfl (by decide +kernel) rfl (fun h => absurd h (by decide)) (fun _ => ⟨27, rfl, by decide, rfl⟩) (Nat.le_of_ble_eq_true rfl) (Or.inl rfl) (fun _ _ _ h => h) (s_X6_isWorldK l A G hL ncl hn hn8 cnt hC hk1 s (by omega)) (fun v M2 hp2 => ?_)
    obtain ⟨rfl, rfl⟩ := hp2
    rcases Classical.em (WdM A ncl s cnt) with hb3 | hb3
    · rw [bi_t hb3]
      show Go l ro0 mX6_worlds 39 (A, G, PF) 15 [.ref 27, .int (nI (cntM A ncl cnt tru s)), .int (nI s)] [.int 1] 39 _
      refine go_ifz (cnd := .eq) (off := 6) 21 (by decide +kernel) (by decide) (fun (h : (1 : Int32) = 0) => absurd h (by decide)) (fun _ => ?_)
      refine go_blk (pc2 := 24) (L2 := [.ref 27, .int ((nI (cntM A ncl cnt tru s)) + 1), .int ((nI s) + 1)]) (st2 := []) (M2 := (A, G, PF)) (hs2 := []) (C := True) [(.iinc 1 1, 0, 0), (.iinc 2 1, 0, 0)] [] (by decide +kernel) rfl trivial ?_
      refine go_goto (off := -20) 4 (by decide +kernel) (by decide) ?_
      exact go_as (ih (by omega) ) rfl (by first | rw [cntM_t (by assumption) trivial, nI_1, nI_1] | rw [cntM_f (fun zz => absurd zz.1 (by assumption)), nI_1]) rfl
    · rw [bi_f hb3]
      show Go l ro0 mX6_worlds 39 (A, G, PF) 15 [.ref 27, .int (nI (cntM A ncl cnt tru s)), .int (nI s)] [.int 0] 39 _
      refine go_ifz (cnd := .eq) (off := 6) 21 (by decide +kernel) (by decide) (fun _ => ?_) (fun (h : ¬ (0 : Int32) = 0) => absurd h (by decide))
      refine go_blk (pc2 := 24) (L2 := [.ref 27, .int (nI (cntM A ncl cnt tru s)), .int ((nI s) + 1)]) (st2 := []) (M2 := (A, G, PF)) (hs2 := []) (C := True) [(.iinc 2 1, 0, 0)] [] (by decide +kernel) rfl trivial ?_
      refine go_goto (off := -20) 4 (by decide +kernel) (by decide) ?_
      exact go_as (ih (by omega) ) rfl (by first | rw [cntM_t (by assumption) trivial, nI_1, nI_1] | rw [cntM_f (fun zz => absurd zz.1 (by assumption)), nI_1]) rfl
set_option maxRecDepth 100000 in
set_option maxHeartbeats 4000000 in
theorem lf_X6_worlds (l : Launch) (A : Nat → Nat → Int32) (G : Nat → Nat → Int64) (hL : LitOkM A) (ncl : Nat) (hn : A 27 4 = nI ncl) (hn8 : ncl ≤ 8) (hpt : ∀ p, p < 5 → A 37 p = nI (part p)) (hkn : ¬ A 27 6 = 0 → A 27 6 = 1 ∧ ∃ cnt, MCache A cnt) : Go l ro0 mX6_worlds 39 (A, G, PF) 4 [.ref 27, .int 0, .int 0] [] 39 (rmp A G (fun A2 cnt => nI (cntM A2 ncl cnt tru 32))) := by
  refine go_blk (pc2 := 7) (L2 := [.ref 27, .int 0, .int 0]) (st2 := [.int 32, .int 0]) (M2 := (A, G, PF)) (hs2 := []) (C := True) [(.iload_n 2, 0, 0), (.bipush 32, 0, 0)] [] (by decide +kernel) rfl trivial ?_
  refine go_cmp (cnd := .ge) (off := 20) 27 (by decide +kernel) (by decide) (fun (h : 32 ≤ (0 : Int32)) => absurd h (by decide)) (fun _ => ?_)
  refine go_blk (pc2 := 12) (L2 := [.ref 27, .int 0, .int 0]) (st2 := [.int 0, .ref 27]) (M2 := (A, G, PF)) (hs2 := []) (C := True) [(.aload_n 0, 0, 0), (.iload_n 2, 0, 0)] [] (by decide +kernel) rfl trivial ?_
  refine go_call (Y2 := mX6_isWorld) (n2 := 39) (st := []) [.ref 27] [.int 0] ck_6_136 cwX6_isWorld rfl (by decide +kernel) rfl (fun h => absurd h (by decide)) (fun _ => ⟨27, rfl, by decide, rfl⟩) (Nat.le_of_ble_eq_true rfl) (Or.inl rfl) (fun _ _ _ h => h) (s_X6_isWorld l A G hL ncl hn hn8 hpt hkn 0 (by decide)) (fun v M2 hp1 => ?_)
  obtain ⟨A2, cnt, rfl, hC, hKn, hk1, rfl⟩ := hp1
  dsimp only
  rcases Classical.em (WdM A2 ncl 0 cnt) with hb2 | hb2
  · rw [bi_t hb2]
    show Go l ro0 mX6_worlds 39 (A2, G, PF) 15 [.ref 27, .int 0, .int 0] [.int 1] 39 _
    refine go_ifz (cnd := .eq) (off := 6) 21 (by decide +kernel) (by decide) (fun (h : (1 : Int32) = 0) => absurd h (by decide)) (fun _ => ?_)
    refine go_blk (pc2 := 24) (L2 := [.ref 27, .int (0 + 1), .int (0 + 1)]) (st2 := []) (M2 := (A2, G, PF)) (hs2 := []) (C := True) [(.iinc 1 1, 0, 0), (.iinc 2 1, 0, 0)] [] (by decide +kernel) rfl trivial ?_
    refine go_goto (off := -20) 4 (by decide +kernel) (by decide) ?_
    exact Go.mono (go_as (lp_X6_worlds l A2 G (hL.kn hKn) ncl (hKn.n.trans hn) hn8 cnt hC hk1 1 (by omega)) rfl (by first | (rw [cntM_t (by assumption) trivial]; rfl) | (rw [cntM_f (fun zz => absurd zz.1 (by assumption))]; rfl)) rfl) (by rintro _ _ ⟨rfl, rfl⟩; exact ⟨A2, cnt, rfl, hC, hKn, hk1, rfl⟩)
  · rw [bi_f hb2]
    show Go l ro0 mX6_worlds 39 (A2, G, PF) 15 [.ref 27, .int 0, .int 0] [.int 0] 39 _
    refine go_ifz (cnd := .eq) (off := 6) 21 (by decide +kernel) (by decide) (fun _ => ?_) (fun (h : ¬ (0 : Int32) = 0) => absurd h (by decide))
    refine go_blk (pc2 := 24) (L2 := [.ref 27, .int 0, .int (0 + 1)]) (st2 := []) (M2 := (A2, G, PF)) (hs2 := []) (C := True) [(.iinc 2 1, 0, 0)] [] (by decide +kernel) rfl trivial ?_
    refine go_goto (off := -20) 4 (by decide +kernel) (by decide) ?_
    exact Go.mono (go_as (lp_X6_worlds l A2 G (hL.kn hKn) ncl (hKn.n.trans hn) hn8 cnt hC hk1 1 (by omega)) rfl (by first | (rw [cntM_t (by assumption) trivial]; rfl) | (rw [cntM_f (fun zz => absurd zz.1 (by assumption))]; rfl)) rfl) (by rintro _ _ ⟨rfl, rfl⟩; exact ⟨A2, cnt, rfl, hC, hKn, hk1, rfl⟩)
set_option maxRecDepth 100000 in
set_option maxHeartbeats 4000000 in
theorem s_X6_worlds (l : Launch) (A : Nat → Nat → Int32) (G : Nat → Nat → Int64) (hL : LitOkM A) (ncl : Nat) (hn : A 27 4 = nI ncl) (hn8 : ncl ≤ 8) (hpt : ∀ p, p < 5 → A 37 p = nI (part p)) (hkn : ¬ A 27 6 = 0 → A 27 6 = 1 ∧ ∃ cnt, MCache A cnt) : Sem l mX6_worlds [.ref 27] 39 (A, G, PF) 39 (rmp A G (fun A2 cnt => nI (cntM A2 ncl cnt tru 32))) := by
  refine sem_of_go (by decide) rfl (by decide) (by decide) rfl (Nat.le_of_ble_eq_true rfl) ?_
  show Go l ro0 mX6_worlds 39 (A, G, PF) 0 [.ref 27, .null, .null] [] 39 (rmp A G (fun A2 cnt => nI (cntM A2 ncl cnt tru 32)))
  refine go_blk (pc2 := 4) (L2 := [.ref 27, .int 0, .int 0]) (st2 := []) (M2 := (A, G, PF)) (hs2 := []) (C := True) [(.iconst 0, 0, 0), (.istore_n 1, 0, 0), (.iconst 0, 0, 0), (.istore_n 2, 0, 0)] [] (by decide +kernel) rfl trivial ?_
  exact lf_X6_worlds l A G hL ncl hn hn8 hpt hkn
theorem litd : ∀ m, m < 10 → nI m / 2 = nI (m / 2) ∧ nI m - (nI m / 2) * 2 = nI (m % 2) := by decide +kernel
theorem HLM {s m : Nat} (hs : s < 32) (hm : m < 10) : ((nI s >>> ((nI m / 2) &&& 31)) &&& 1) = 1 - (nI m - (nI m / 2) * 2) ↔ HL s m := by
  rw [(litd m hm).2, (litd m hm).1, bitS s hs (m / 2) (by omega)]
  unfold HL
  have h1 : m % 2 = 0 ∨ m % 2 = 1 := by omega
  rcases h1 with h | h <;> rw [h] <;> split <;> simp_all <;> decide
def hvM (A : Nat → Nat → Int32) (ncl cnt m : Nat) : Prop := True
noncomputable def hvMi (A : Nat → Nat → Int32) (ncl cnt m : Nat) : Int32 := if cntM A ncl cnt (fun s => HL s m) 32 = 0 then 0 else if cntM A ncl cnt (fun s => HL s m) 32 < cntM A ncl cnt tru 32 then 1 else 2
set_option maxRecDepth 100000 in
set_option maxHeartbeats 4000000 in
theorem lp_X6_holds (l : Launch) (A : Nat → Nat → Int32) (G : Nat → Nat → Int64) (hL : LitOkM A) (ncl : Nat) (hn : A 27 4 = nI ncl) (hn8 : ncl ≤ 8) (cnt : Nat) (hC : MCache A cnt) (hk1 : A 27 6 = 1) (m : Nat) (hm : m < 10) (x : Int32) (hx : x = nI m) : ∀ k, k ≤ 32 → Go l ro0 mX6_holds 39 (A, G, PF) 17 [.ref 27, .int x, .int (nI (cntM A ncl cnt tru k)), .int (nI (cntM A ncl cnt (fun s => HL s m) k)), .int (nI k)] [] 39 (pv (hvMi A ncl cnt m) (A, G, PF)) := by
  refine down 32 (fun k hk ih  => ?_)
  have hle1 := cntM_le A ncl cnt tru k
  have hle2 := cntM_le A ncl cnt (fun s => HL s m) k
  refine go_blk (pc2 := 21) (L2 := [.ref 27, .int x, .int (nI (cntM A ncl cnt tru k)), .int (nI (cntM A ncl cnt (fun s => HL s m) k)), .int (nI k)]) (st2 := [.int 32, .int (nI k)]) (M2 := (A, G, PF)) (hs2 := []) (C := True) [(.iload 4, 0, 0), (.bipush 32, 0, 0)] [] (by decide +kernel) rfl trivial ?_
  refine go_cmp (cnd := .ge) (off := 40) 61 (by decide +kernel) (by decide) (fun (c1 : 32 ≤ (nI k)) => ?_) (fun (c1 : ¬ 32 ≤ (nI k)) => ?_)
  · skip
    replace c1 : 32 ≤ k := (nx_le (a := 32) (b := k) rfl rfl (by omega) (by omega)).mp c1
    refine go_blk (pc2 := 62) (L2 := [.ref 27, .int x, .int (nI (cntM A ncl cnt tru k)), .int (nI (cntM A ncl cnt (fun s => HL s m) k)), .int (nI k)]) (st2 := [.int (nI (cntM A ncl cnt (fun s => HL s m) k))]) (M2 := (A, G, PF)) (hs2 := []) (C := True) [(.iload_n 3, 0, 0)] [] (by decide +kernel) rfl trivial ?_
    refine go_ifz (cnd := .ne) (off := 7) 69 (by decide +kernel) (by decide) (fun (c2 : ¬ (nI (cntM A ncl cnt (fun s => HL s m) k)) = 0) => ?_) (fun (c2 : (nI (cntM A ncl cnt (fun s => HL s m) k)) = 0) => ?_)
    · skip
      replace c2 : ¬ (cntM A ncl cnt (fun s => HL s m) k) = 0 := fun zz => c2 ((nx_eq (a := (cntM A ncl cnt (fun s => HL s m) k)) (b := 0) rfl rfl (by omega) (by omega)).mpr zz)
      refine go_blk (pc2 := 71) (L2 := [.ref 27, .int x, .int (nI (cntM A ncl cnt tru k)), .int (nI (cntM A ncl cnt (fun s => HL s m) k)), .int (nI k)]) (st2 := [.int (nI (cntM A ncl cnt tru k)), .int (nI (cntM A ncl cnt (fun s => HL s m) k))]) (M2 := (A, G, PF)) (hs2 := []) (C := True) [(.iload_n 3, 0, 0), (.iload_n 2, 0, 0)] [] (by decide +kernel) rfl trivial ?_
      refine go_cmp (cnd := .ge) (off := 7) 78 (by decide +kernel) (by decide) (fun (c3 : (nI (cntM A ncl cnt tru k)) ≤ (nI (cntM A ncl cnt (fun s => HL s m) k))) => ?_) (fun (c3 : ¬ (nI (cntM A ncl cnt tru k)) ≤ (nI (cntM A ncl cnt (fun s => HL s m) k))) => ?_)
      · skip
        replace c3 : (cntM A ncl cnt tru k) ≤ (cntM A ncl cnt (fun s => HL s m) k) := (nx_le (a := (cntM A ncl cnt tru k)) (b := (cntM A ncl cnt (fun s => HL s m) k)) rfl rfl (by omega) (by omega)).mp c3
        refine go_blk (pc2 := 79) (L2 := [.ref 27, .int x, .int (nI (cntM A ncl cnt tru k)), .int (nI (cntM A ncl cnt (fun s => HL s m) k)), .int (nI k)]) (st2 := [.int 2]) (M2 := (A, G, PF)) (hs2 := []) (C := True) [(.iconst 2, 0, 0)] [] (by decide +kernel) rfl trivial ?_
        exact go_reti (by decide +kernel) rfl (pve (by obtain rfl : k = 32 := (by omega); unfold hvMi; first | rw [if_pos (by assumption)] | rw [if_neg (by assumption), if_pos (by omega)] | rw [if_neg (by assumption), if_neg (by omega)]))
      · skip
        replace c3 : ¬ (cntM A ncl cnt tru k) ≤ (cntM A ncl cnt (fun s => HL s m) k) := fun zz => c3 ((nx_le (a := (cntM A ncl cnt tru k)) (b := (cntM A ncl cnt (fun s => HL s m) k)) rfl rfl (by omega) (by omega)).mpr zz)
        refine go_blk (pc2 := 75) (L2 := [.ref 27, .int x, .int (nI (cntM A ncl cnt tru k)), .int (nI (cntM A ncl cnt (fun s => HL s m) k)), .int (nI k)]) (st2 := [.int 1]) (M2 := (A, G, PF)) (hs2 := []) (C := True) [(.iconst 1, 0, 0)] [] (by decide +kernel) rfl trivial ?_
        refine go_goto (off := 4) 79 (by decide +kernel) (by decide) ?_
        exact go_reti (by decide +kernel) rfl (pve (by obtain rfl : k = 32 := (by omega); unfold hvMi; first | rw [if_pos (by assumption)] | rw [if_neg (by assumption), if_pos (by omega)] | rw [if_neg (by assumption), if_neg (by omega)]))
    · skip
      replace c2 : (cntM A ncl cnt (fun s => HL s m) k) = 0 := (nx_eq (a := (cntM A ncl cnt (fun s => HL s m) k)) (b := 0) rfl rfl (by omega) (by omega)).mp c2
      refine go_blk (pc2 := 66) (L2 := [.ref 27, .int x, .int (nI (cntM A ncl cnt tru k)), .int (nI (cntM A ncl cnt (fun s => HL s m) k)), .int (nI k)]) (st2 := [.int 0]) (M2 := (A, G, PF)) (hs2 := []) (C := True) [(.iconst 0, 0, 0)] [] (by decide +kernel) rfl trivial ?_
      refine go_goto (off := 13) 79 (by decide +kernel) (by decide) ?_
      exact go_reti (by decide +kernel) rfl (pve (by obtain rfl : k = 32 := (by omega); unfold hvMi; first | rw [if_pos (by assumption)] | rw [if_neg (by assumption), if_pos (by omega)] | rw [if_neg (by assumption), if_neg (by omega)]))
  · skip
    replace c1 : ¬ 32 ≤ k := fun zz => c1 ((nx_le (a := 32) (b := k) rfl rfl (by omega) (by omega)).mpr zz)
    refine go_blk (pc2 := 27) (L2 := [.ref 27, .int x, .int (nI (cntM A ncl cnt tru k)), .int (nI (cntM A ncl cnt (fun s => HL s m) k)), .int (nI k)]) (st2 := [.int (nI k), .ref 27]) (M2 := (A, G, PF)) (hs2 := []) (C := True) [(.aload_n 0, 0, 0), (.iload 4, 0, 0)] [] (by decide +kernel) rfl trivial ?_
    refine go_call (Y2 := mX6_isWorld) (n2 := 39) (st := []) [.ref 27] [.int (nI k)] ck_6_136 cwX6_isWorld rfl (by decide +kernel) rfl (fun h => absurd h (by decide)) (fun _ => ⟨27, rfl, by decide, rfl⟩) (Nat.le_of_ble_eq_true rfl) (Or.inl rfl) (fun _ _ _ h => h) (s_X6_isWorldK l A G hL ncl hn hn8 cnt hC hk1 k (by omega)) (fun v M2 hp4 => ?_)
    obtain ⟨rfl, rfl⟩ := hp4
    rcases Classical.em (WdM A ncl k cnt) with hb5 | hb5
    · rw [bi_t hb5]
      show Go l ro0 mX6_holds 39 (A, G, PF) 30 [.ref 27, .int x, .int (nI (cntM A ncl cnt tru k)), .int (nI (cntM A ncl cnt (fun s => HL s m) k)), .int (nI k)] [.int 1] 39 _
      refine go_ifz (cnd := .eq) (off := 25) 55 (by decide +kernel) (by decide) (fun (h : (1 : Int32) = 0) => absurd h (by decide)) (fun _ => ?_)
      refine go_blk (pc2 := 49) (L2 := [.ref 27, .int x, .int ((nI (cntM A ncl cnt tru k)) + 1), .int (nI (cntM A ncl cnt (fun s => HL s m) k)), .int (nI k)]) (st2 := [.int (1 - (x - (x / 2) * 2)), .int (((nI k) >>> ((x / 2) &&& 31)) &&& 1)]) (M2 := (A, G, PF)) (hs2 := []) (C := (¬ 2 = 0) ∧ (¬ 2 = 0) ∧ True) [(.iinc 2 1, 0, 0), (.iload 4, 0, 0), (.iload_n 1, 0, 0), (.iconst 2, 0, 0), (.idiv, 0, 0), (.ishr, 0, 0), (.iconst 1, 0, 0), (.iand, 0, 0), (.iconst 1, 0, 0), (.iload_n 1, 0, 0), (.iconst 2, 0, 0), (.irem, 0, 0), (.isub, 0, 0)] [] (by decide +kernel) rfl ⟨by decide, by decide, trivial⟩ ?_
      refine go_cmp (cnd := .ne) (off := 6) 55 (by decide +kernel) (by decide) (fun (c6 : ¬ (((nI k) >>> ((x / 2) &&& 31)) &&& 1) = (1 - (x - (x / 2) * 2))) => ?_) (fun (c6 : (((nI k) >>> ((x / 2) &&& 31)) &&& 1) = (1 - (x - (x / 2) * 2))) => ?_)
      · skip
        rw [hx] at c6
        replace c6 := (not_congr (HLM (by omega) hm)).mp c6
        refine go_blk (pc2 := 58) (L2 := [.ref 27, .int x, .int ((nI (cntM A ncl cnt tru k)) + 1), .int (nI (cntM A ncl cnt (fun s => HL s m) k)), .int ((nI k) + 1)]) (st2 := []) (M2 := (A, G, PF)) (hs2 := []) (C := True) [(.iinc 4 1, 0, 0)] [] (by decide +kernel) rfl trivial ?_
        refine go_goto (off := -41) 17 (by decide +kernel) (by decide) ?_
        exact go_as (ih (by omega) ) rfl (by (first | (rw [cntM_t (by assumption) trivial, nI_1]) | (rw [cntM_f (fun zz => absurd zz.1 (by assumption))])); (first | (rw [cntM_t (P := fun s => HL s m) (by assumption) (by assumption), nI_1]) | (rw [cntM_f (P := fun s => HL s m) (fun zz => absurd zz.2 (by assumption))]) | (rw [cntM_f (P := fun s => HL s m) (fun zz => absurd zz.1 (by assumption))])); rw [nI_1]) rfl
      · skip
        rw [hx] at c6
        replace c6 := (HLM (by omega) hm).mp c6
        refine go_blk (pc2 := 58) (L2 := [.ref 27, .int x, .int ((nI (cntM A ncl cnt tru k)) + 1), .int ((nI (cntM A ncl cnt (fun s => HL s m) k)) + 1), .int ((nI k) + 1)]) (st2 := []) (M2 := (A, G, PF)) (hs2 := []) (C := True) [(.iinc 3 1, 0, 0), (.iinc 4 1, 0, 0)] [] (by decide +kernel) rfl trivial ?_
        refine go_goto (off := -41) 17 (by decide +kernel) (by decide) ?_
        exact go_as (ih (by omega) ) rfl (by (first | (rw [cntM_t (by assumption) trivial, nI_1]) | (rw [cntM_f (fun zz => absurd zz.1 (by assumption))])); (first | (rw [cntM_t (P := fun s => HL s m) (by assumption) (by assumption), nI_1]) | (rw [cntM_f (P := fun s => HL s m) (fun zz => absurd zz.2 (by assumption))]) | (rw [cntM_f (P := fun s => HL s m) (fun zz => absurd zz.1 (by assumption))])); rw [nI_1]) rfl
    · rw [bi_f hb5]
      show Go l ro0 mX6_holds 39 (A, G, PF) 30 [.ref 27, .int x, .int (nI (cntM A ncl cnt tru k)), .int (nI (cntM A ncl cnt (fun s => HL s m) k)), .int (nI k)] [.int 0] 39 _
      refine go_ifz (cnd := .eq) (off := 25) 55 (by decide +kernel) (by decide) (fun _ => ?_) (fun (h : ¬ (0 : Int32) = 0) => absurd h (by decide))
      refine go_blk (pc2 := 58) (L2 := [.ref 27, .int x, .int (nI (cntM A ncl cnt tru k)), .int (nI (cntM A ncl cnt (fun s => HL s m) k)), .int ((nI k) + 1)]) (st2 := []) (M2 := (A, G, PF)) (hs2 := []) (C := True) [(.iinc 4 1, 0, 0)] [] (by decide +kernel) rfl trivial ?_
      refine go_goto (off := -41) 17 (by decide +kernel) (by decide) ?_
      exact go_as (ih (by omega) ) rfl (by (first | (rw [cntM_t (by assumption) trivial, nI_1]) | (rw [cntM_f (fun zz => absurd zz.1 (by assumption))])); (first | (rw [cntM_t (P := fun s => HL s m) (by assumption) (by assumption), nI_1]) | (rw [cntM_f (P := fun s => HL s m) (fun zz => absurd zz.2 (by assumption))]) | (rw [cntM_f (P := fun s => HL s m) (fun zz => absurd zz.1 (by assumption))])); rw [nI_1]) rfl
set_option maxRecDepth 100000 in
set_option maxHeartbeats 4000000 in
theorem lf_X6_holds (l : Launch) (A : Nat → Nat → Int32) (G : Nat → Nat → Int64) (hL : LitOkM A) (ncl : Nat) (hn : A 27 4 = nI ncl) (hn8 : ncl ≤ 8) (hpt : ∀ p, p < 5 → A 37 p = nI (part p)) (hkn : ¬ A 27 6 = 0 → A 27 6 = 1 ∧ ∃ cnt, MCache A cnt) (m : Nat) (hm : m < 10) (x : Int32) (hx : x = nI m) : Go l ro0 mX6_holds 39 (A, G, PF) 17 [.ref 27, .int x, .int 0, .int 0, .int 0] [] 39 (rmp A G (fun A2 cnt => hvMi A2 ncl cnt m)) := by
  refine go_blk (pc2 := 21) (L2 := [.ref 27, .int x, .int 0, .int 0, .int 0]) (st2 := [.int 32, .int 0]) (M2 := (A, G, PF)) (hs2 := []) (C := True) [(.iload 4, 0, 0), (.bipush 32, 0, 0)] [] (by decide +kernel) rfl trivial ?_
  refine go_cmp (cnd := .ge) (off := 40) 61 (by decide +kernel) (by decide) (fun (h : 32 ≤ (0 : Int32)) => absurd h (by decide)) (fun _ => ?_)
  refine go_blk (pc2 := 27) (L2 := [.ref 27, .int x, .int 0, .int 0, .int 0]) (st2 := [.int 0, .ref 27]) (M2 := (A, G, PF)) (hs2 := []) (C := True) [(.aload_n 0, 0, 0), (.iload 4, 0, 0)] [] (by decide +kernel) rfl trivial ?_
  refine go_call (Y2 := mX6_isWorld) (n2 := 39) (st := []) [.ref 27] [.int 0] ck_6_136 cwX6_isWorld rfl (by decide +kernel) rfl (fun h => absurd h (by decide)) (fun _ => ⟨27, rfl, by decide, rfl⟩) (Nat.le_of_ble_eq_true rfl) (Or.inl rfl) (fun _ _ _ h => h) (s_X6_isWorld l A G hL ncl hn hn8 hpt hkn 0 (by decide)) (fun v M2 hp1 => ?_)
  obtain ⟨A2, cnt, rfl, hC, hKn, hk1, rfl⟩ := hp1
  dsimp only
  rcases Classical.em (WdM A2 ncl 0 cnt) with hb2 | hb2
  · rw [bi_t hb2]
    show Go l ro0 mX6_holds 39 (A2, G, PF) 30 [.ref 27, .int x, .int 0, .int 0, .int 0] [.int 1] 39 _
    refine go_ifz (cnd := .eq) (off := 25) 55 (by decide +kernel) (by decide) (fun (h : (1 : Int32) = 0) => absurd h (by decide)) (fun _ => ?_)
    refine go_blk (pc2 := 49) (L2 := [.ref 27, .int x, .int (0 + 1), .int 0, .int 0]) (st2 := [.int (1 - (x - (x / 2) * 2)), .int ((0 >>> ((x / 2) &&& 31)) &&& 1)]) (M2 := (A2, G, PF)) (hs2 := []) (C := (¬ 2 = 0) ∧ (¬ 2 = 0) ∧ True) [(.iinc 2 1, 0, 0), (.iload 4, 0, 0), (.iload_n 1, 0, 0), (.iconst 2, 0, 0), (.idiv, 0, 0), (.ishr, 0, 0), (.iconst 1, 0, 0), (.iand, 0, 0), (.iconst 1, 0, 0), (.iload_n 1, 0, 0), (.iconst 2, 0, 0), (.irem, 0, 0), (.isub, 0, 0)] [] (by decide +kernel) rfl ⟨by decide, by decide, trivial⟩ ?_
    refine go_cmp (cnd := .ne) (off := 6) 55 (by decide +kernel) (by decide) (fun (c3 : ¬ ((0 >>> ((x / 2) &&& 31)) &&& 1) = (1 - (x - (x / 2) * 2))) => ?_) (fun (c3 : ((0 >>> ((x / 2) &&& 31)) &&& 1) = (1 - (x - (x / 2) * 2))) => ?_)
    · skip
      rw [hx] at c3
      replace c3 := (not_congr (HLM (s := 0) (by omega) hm)).mp c3
      refine go_blk (pc2 := 58) (L2 := [.ref 27, .int x, .int (0 + 1), .int 0, .int (0 + 1)]) (st2 := []) (M2 := (A2, G, PF)) (hs2 := []) (C := True) [(.iinc 4 1, 0, 0)] [] (by decide +kernel) rfl trivial ?_
      refine go_goto (off := -41) 17 (by decide +kernel) (by decide) ?_
      exact Go.mono (go_as (lp_X6_holds l A2 G (hL.kn hKn) ncl (hKn.n.trans hn) hn8 cnt hC hk1 m hm x hx 1 (by omega)) rfl (by (first | (rw [cntM_t (by assumption) trivial]) | (rw [cntM_f (fun zz => absurd zz.1 (by assumption))])); (first | (rw [cntM_t (P := fun s => HL s m) (by assumption) (by assumption)]) | (rw [cntM_f (P := fun s => HL s m) (fun zz => absurd zz.2 (by assumption))]) | (rw [cntM_f (P := fun s => HL s m) (fun zz => absurd zz.1 (by assumption))])); rfl) rfl) (by rintro _ _ ⟨rfl, rfl⟩; exact ⟨A2, cnt, rfl, hC, hKn, hk1, rfl⟩)
    · skip
      rw [hx] at c3
      replace c3 := (HLM (s := 0) (by omega) hm).mp c3
      refine go_blk (pc2 := 58) (L2 := [.ref 27, .int x, .int (0 + 1), .int (0 + 1), .int (0 + 1)]) (st2 := []) (M2 := (A2, G, PF)) (hs2 := []) (C := True) [(.iinc 3 1, 0, 0), (.iinc 4 1, 0, 0)] [] (by decide +kernel) rfl trivial ?_
      refine go_goto (off := -41) 17 (by decide +kernel) (by decide) ?_
      exact Go.mono (go_as (lp_X6_holds l A2 G (hL.kn hKn) ncl (hKn.n.trans hn) hn8 cnt hC hk1 m hm x hx 1 (by omega)) rfl (by (first | (rw [cntM_t (by assumption) trivial]) | (rw [cntM_f (fun zz => absurd zz.1 (by assumption))])); (first | (rw [cntM_t (P := fun s => HL s m) (by assumption) (by assumption)]) | (rw [cntM_f (P := fun s => HL s m) (fun zz => absurd zz.2 (by assumption))]) | (rw [cntM_f (P := fun s => HL s m) (fun zz => absurd zz.1 (by assumption))])); rfl) rfl) (by rintro _ _ ⟨rfl, rfl⟩; exact ⟨A2, cnt, rfl, hC, hKn, hk1, rfl⟩)
  · rw [bi_f hb2]
    show Go l ro0 mX6_holds 39 (A2, G, PF) 30 [.ref 27, .int x, .int 0, .int 0, .int 0] [.int 0] 39 _
    refine go_ifz (cnd := .eq) (off := 25) 55 (by decide +kernel) (by decide) (fun _ => ?_) (fun (h : ¬ (0 : Int32) = 0) => absurd h (by decide))
    refine go_blk (pc2 := 58) (L2 := [.ref 27, .int x, .int 0, .int 0, .int (0 + 1)]) (st2 := []) (M2 := (A2, G, PF)) (hs2 := []) (C := True) [(.iinc 4 1, 0, 0)] [] (by decide +kernel) rfl trivial ?_
    refine go_goto (off := -41) 17 (by decide +kernel) (by decide) ?_
    exact Go.mono (go_as (lp_X6_holds l A2 G (hL.kn hKn) ncl (hKn.n.trans hn) hn8 cnt hC hk1 m hm x hx 1 (by omega)) rfl (by (first | (rw [cntM_t (by assumption) trivial]) | (rw [cntM_f (fun zz => absurd zz.1 (by assumption))])); (first | (rw [cntM_t (P := fun s => HL s m) (by assumption) (by assumption)]) | (rw [cntM_f (P := fun s => HL s m) (fun zz => absurd zz.2 (by assumption))]) | (rw [cntM_f (P := fun s => HL s m) (fun zz => absurd zz.1 (by assumption))])); rfl) rfl) (by rintro _ _ ⟨rfl, rfl⟩; exact ⟨A2, cnt, rfl, hC, hKn, hk1, rfl⟩)
set_option maxRecDepth 100000 in
set_option maxHeartbeats 4000000 in
theorem s_X6_holds (l : Launch) (A : Nat → Nat → Int32) (G : Nat → Nat → Int64) (hL : LitOkM A) (ncl : Nat) (hn : A 27 4 = nI ncl) (hn8 : ncl ≤ 8) (hpt : ∀ p, p < 5 → A 37 p = nI (part p)) (hkn : ¬ A 27 6 = 0 → A 27 6 = 1 ∧ ∃ cnt, MCache A cnt) (x : Int32) : Sem l mX6_holds [.ref 27, .int x] 39 (A, G, PF) 39 (fun r M2 => (¬ Lit A x ∧ r = some (.int (-1)) ∧ M2 = (A, G, PF)) ∨ ∃ m, m < 10 ∧ x = nI m ∧ ¬ A 28 (m / 2) = 0 ∧ rmp A G (fun A2 cnt => hvMi A2 ncl cnt m) r M2) := by
  refine sem_of_go (by decide) rfl (by decide) (by decide) rfl (Nat.le_of_ble_eq_true rfl) ?_
  show Go l ro0 mX6_holds 39 (A, G, PF) 0 [.ref 27, .int x, .null, .null, .null] [] 39 (fun r M2 => (¬ Lit A x ∧ r = some (.int (-1)) ∧ M2 = (A, G, PF)) ∨ ∃ m, m < 10 ∧ x = nI m ∧ ¬ A 28 (m / 2) = 0 ∧ rmp A G (fun A2 cnt => hvMi A2 ncl cnt m) r M2)
  refine go_blk (pc2 := 2) (L2 := [.ref 27, .int x, .null, .null, .null]) (st2 := [.int x, .ref 27]) (M2 := (A, G, PF)) (hs2 := []) (C := True) [(.aload_n 0, 0, 0), (.iload_n 1, 0, 0)] [] (by decide +kernel) rfl trivial ?_
  refine go_call (Y2 := mX6_isLiteral) (n2 := 39) (st := []) [.ref 27] [.int x] ck_6_59 cwX6_isLiteral rfl (by decide +kernel) rfl (fun h => absurd h (by decide)) (fun _ => ⟨27, rfl, by decide, rfl⟩) (Nat.le_of_ble_eq_true rfl) (Or.inl rfl) (fun _ _ _ h => h) (s_X6_isLiteral l A G x) (fun v M2 hp1 => ?_)
  obtain ⟨rfl, rfl⟩ := hp1
  rcases Classical.em (Lit A x) with hb2 | hb2
  · rw [bi_t hb2]
    show Go l ro0 mX6_holds 39 (A, G, PF) 5 [.ref 27, .int x, .null, .null, .null] [.int 1] 39 _
    obtain ⟨m, hm, hx, hnz⟩ := hb2
    refine go_ifz (cnd := .ne) (off := 5) 10 (by decide +kernel) (by decide) (fun _ => ?_) (fun (h : (1 : Int32) = 0) => absurd h (by decide))
    refine go_blk (pc2 := 17) (L2 := [.ref 27, .int x, .int 0, .int 0, .int 0]) (st2 := []) (M2 := (A, G, PF)) (hs2 := []) (C := True) [(.iconst 0, 0, 0), (.istore_n 2, 0, 0), (.iconst 0, 0, 0), (.istore_n 3, 0, 0), (.iconst 0, 0, 0), (.istore 4, 0, 0)] [] (by decide +kernel) rfl trivial ?_
    exact Go.mono (lf_X6_holds l A G hL ncl hn hn8 hpt hkn m hm x hx) (fun r M2 hh => Or.inr ⟨m, hm, hx, hnz, hh⟩)
  · rw [bi_f hb2]
    show Go l ro0 mX6_holds 39 (A, G, PF) 5 [.ref 27, .int x, .null, .null, .null] [.int 0] 39 _
    refine go_ifz (cnd := .ne) (off := 5) 10 (by decide +kernel) (by decide) (fun (h : ¬ (0 : Int32) = 0) => absurd h (by decide)) (fun _ => ?_)
    refine go_blk (pc2 := 9) (L2 := [.ref 27, .int x, .null, .null, .null]) (st2 := [.int (-1)]) (M2 := (A, G, PF)) (hs2 := []) (C := True) [(.iconst (-1), 0, 0)] [] (by decide +kernel) rfl trivial ?_
    exact go_reti (by decide +kernel) rfl (Or.inl ⟨by assumption, rfl, rfl⟩)
theorem and31 (x d : Int32) : ∃ m, m < 32 ∧ x &&& (31 &&& d) = nI m := by
  obtain ⟨m, h1, h2⟩ := and32 (x &&& d) 31 (by decide)
  refine ⟨m, h1, ?_⟩
  rw [← h2]
  show x &&& (nI 31 &&& d) = _
  rw [Int32.and_comm (nI 31) d, Int32.and_assoc]
set_option maxRecDepth 100000 in
set_option maxHeartbeats 4000000 in
theorem s_X6_world (l : Launch) (A : Nat → Nat → Int32) (G : Nat → Nat → Int64) (hL : LitOkM A) (ncl : Nat) (hn : A 27 4 = nI ncl) (hn8 : ncl ≤ 8) (hpt : ∀ p, p < 5 → A 37 p = nI (part p)) (hkn : ¬ A 27 6 = 0 → A 27 6 = 1 ∧ ∃ cnt, MCache A cnt) (x : Int32) : Sem l mX6_world [.ref 27, .int x] 39 (A, G, PF) 39 (fun r M2 => ∃ m, m < 32 ∧ x &&& (31 &&& (okf A 0 5 ^^^ (-1))) = nI m ∧ rmp A G (fun A2 cnt => bi (WdM A2 ncl m cnt)) r M2) := by
  refine sem_of_go (by decide) rfl (by decide) (by decide) rfl (Nat.le_of_ble_eq_true rfl) ?_
  show Go l ro0 mX6_world 39 (A, G, PF) 0 [.ref 27, .int x, .null] [] 39 (fun r M2 => ∃ m, m < 32 ∧ x &&& (31 &&& (okf A 0 5 ^^^ (-1))) = nI m ∧ rmp A G (fun A2 cnt => bi (WdM A2 ncl m cnt)) r M2)
  refine go_blk (pc2 := 2) (L2 := [.ref 27, .int x, .null]) (st2 := [.ref 27, .int x]) (M2 := (A, G, PF)) (hs2 := []) (C := True) [(.iload_n 1, 0, 0), (.aload_n 0, 0, 0)] [] (by decide +kernel) rfl trivial ?_
  refine go_call (Y2 := mX6_defined) (n2 := 39) (st := [.int x]) [.ref 27] [] ck_6_98 cwX6_defined rfl (by decide +kernel) rfl (fun h => absurd h (by decide)) (fun _ => ⟨27, rfl, by decide, rfl⟩) (Nat.le_of_ble_eq_true rfl) (Or.inl rfl) (fun _ _ _ h => h) (s_X6_defined l A G) (fun v M2 hp1 => ?_)
  obtain ⟨rfl, rfl⟩ := hp1
  obtain ⟨m, hm32, hm⟩ := and31 x (okf A 0 5 ^^^ (-1))
  show Go l ro0 mX6_world 39 (A, G, PF) 5 [.ref 27, .int x, .null] [.int (31 &&& (okf A 0 5 ^^^ (-1))), .int x] 39 _
  refine go_blk (pc2 := 9) (L2 := [.ref 27, .int x, .int (x &&& (31 &&& (okf A 0 5 ^^^ (-1))))]) (st2 := [.int (x &&& (31 &&& (okf A 0 5 ^^^ (-1)))), .ref 27]) (M2 := (A, G, PF)) (hs2 := []) (C := True) [(.iand, 0, 0), (.istore_n 2, 0, 0), (.aload_n 0, 0, 0), (.iload_n 2, 0, 0)] [] (by decide +kernel) rfl trivial ?_
  refine go_call (Y2 := mX6_isWorld) (n2 := 39) (st := []) [.ref 27] [.int (x &&& (31 &&& (okf A 0 5 ^^^ (-1))))] ck_6_136 cwX6_isWorld rfl (by decide +kernel) rfl (fun h => absurd h (by decide)) (fun _ => ⟨27, rfl, by decide, rfl⟩) (Nat.le_of_ble_eq_true rfl) (Or.inl rfl) (fun _ _ _ h => h) (by rw [hm]; exact s_X6_isWorld l A G hL ncl hn hn8 hpt hkn m hm32) (fun v M2 hp2 => ?_)
  obtain ⟨A2, cnt, rfl, hC, hKn, hk1, rfl⟩ := hp2
  show Go l ro0 mX6_world 39 (A2, G, PF) 12 [.ref 27, .int x, .int (x &&& (31 &&& (okf A 0 5 ^^^ (-1))))] [.int (bi (WdM A2 ncl m cnt))] 39 _
  exact go_retz (by decide +kernel) rfl (bi_01 _) (⟨m, hm32, hm, A2, cnt, rfl, hC, hKn, hk1, rfl⟩)
