noncomputable def cntw (A : Nat → Nat → Int32) (dm ncl : Nat) : Nat → Nat
  | 0 => 0
  | s + 1 => @ite Nat (Wd A dm ncl s) (Classical.propDecidable _) (cntw A dm ncl s + 1) (cntw A dm ncl s)
theorem cntw_t {A : Nat → Nat → Int32} {dm ncl s : Nat} (h : Wd A dm ncl s) : cntw A dm ncl (s + 1) = cntw A dm ncl s + 1 := if_pos h
theorem cntw_f {A : Nat → Nat → Int32} {dm ncl s : Nat} (h : ¬ Wd A dm ncl s) : cntw A dm ncl (s + 1) = cntw A dm ncl s := if_neg h
/-- after a refresh, an answer that is read off the memory then -/
def rfp (A : Nat → Nat → Int32) (G : Nat → Nat → Int64) (E : (Nat → Nat → Int32) → Int32) : Option Value → Mem → Prop := fun r M2 => ∃ A2 cnt, M2 = (A2, G, PF) ∧ CacheI A2 cnt ∧ RfF A A2 ∧ Z5 A A2 ∧ r = some (.int (E A2))
theorem and32 : ∀ (x : Int32) (d : Nat), d < 32 → ∃ m, m < 32 ∧ x &&& nI d = nI m := by
  intro x d hd
  refine ⟨(x &&& nI d).toBitVec.toNat, ?_, ?_⟩
  · have h1 : (x &&& nI d).toBitVec.toNat = x.toBitVec.toNat &&& (nI d).toBitVec.toNat := by simp
    rw [h1, pk_tn (by omega)]
    exact Nat.lt_of_le_of_lt Nat.and_le_right hd
  · apply Int32.toBitVec_inj.mp
    apply BitVec.eq_of_toNat_eq
    have h1 : (x &&& nI d).toBitVec.toNat < 32 := by
      have h1 : (x &&& nI d).toBitVec.toNat = x.toBitVec.toNat &&& (nI d).toBitVec.toNat := by simp
      rw [h1, pk_tn (by omega)]
      exact Nat.lt_of_le_of_lt Nat.and_le_right hd
    rw [pk_tn (by omega)]
def SW (A : Nat → Nat → Int32) (dm ncl m k : Nat) : Prop := ∃ s, s < k ∧ Wd A dm ncl s ∧ HL s m
def EW (A : Nat → Nat → Int32) (dm ncl m k : Nat) : Prop := ∀ s, s < k → Wd A dm ncl s → HL s m
theorem SWs {A : Nat → Nat → Int32} {dm ncl m k : Nat} : SW A dm ncl m (k + 1) ↔ (SW A dm ncl m k ∨ (Wd A dm ncl k ∧ HL k m)) := by
  constructor
  · rintro ⟨s, h1, h2, h3⟩
    by_cases e : s = k
    · subst e; exact Or.inr ⟨h2, h3⟩
    · exact Or.inl ⟨s, by omega, h2, h3⟩
  · rintro (⟨s, h1, h2, h3⟩ | ⟨h2, h3⟩)
    · exact ⟨s, by omega, h2, h3⟩
    · exact ⟨k, by omega, h2, h3⟩
theorem EWs {A : Nat → Nat → Int32} {dm ncl m k : Nat} : EW A dm ncl m (k + 1) ↔ (EW A dm ncl m k ∧ (Wd A dm ncl k → HL k m)) := by
  constructor
  · exact fun h => ⟨fun s h1 => h s (by omega), h k (by omega)⟩
  · rintro ⟨h1, h2⟩ s h3 h4
    by_cases e : s = k
    · subst e; exact h2 h4
    · exact h1 s (by omega) h4
noncomputable def hv (A : Nat → Nat → Int32) (dm ncl m : Nat) : Int32 := @ite Int32 (SW A dm ncl m 32) (Classical.propDecidable _) (@ite Int32 (EW A dm ncl m 32) (Classical.propDecidable _) 2 1) 0
theorem bi_n {p : Prop} : ¬ bi p = 0 ↔ p := by
  constructor
  · intro h
    exact Classical.byContradiction fun q => h (bi_f q)
  · intro h q
    rw [bi_t h] at q
    cases q
theorem bi_z {p : Prop} : bi p = 0 ↔ ¬ p := by
  constructor
  · intro h q
    rw [bi_t q] at h
    cases h
  · exact bi_f
set_option maxRecDepth 100000 in
set_option maxHeartbeats 4000000 in
theorem lp_X5_worlds (l : Launch) (A : Nat → Nat → Int32) (G : Nat → Nat → Int64) (dm ncl : Nat) (hK : KI A dm ncl) : ∀ s, s ≤ 32 → Go l ro0 mX5_worlds 27 (A, G, PF) 8 [.ref 0, .int (nI (cntw A dm ncl s)), .int (nI s)] [] 27 (pv (nI (cntw A dm ncl 32)) (A, G, PF)) := by
  refine down 32 (fun s hk ih  => ?_)
  refine go_blk (pc2 := 11) (L2 := [.ref 0, .int (nI (cntw A dm ncl s)), .int (nI s)]) (st2 := [.int 32, .int (nI s)]) (M2 := (A, G, PF)) (hs2 := []) (C := True) [(.iload_n 2, 0, 0), (.bipush 32, 0, 0)] [] (by decide +kernel) rfl trivial ?_
  refine go_cmp (cnd := .ge) (off := 20) 31 (by decide +kernel) (by decide) (fun (c1 : 32 ≤ (nI s)) => ?_) (fun (c1 : ¬ 32 ≤ (nI s)) => ?_)
  · skip
    replace c1 : 32 ≤ s := (nx_le (a := 32) (b := s) rfl rfl (by omega) (by omega)).mp c1
    refine go_blk (pc2 := 32) (L2 := [.ref 0, .int (nI (cntw A dm ncl s)), .int (nI s)]) (st2 := [.int (nI (cntw A dm ncl s))]) (M2 := (A, G, PF)) (hs2 := []) (C := True) [(.iload_n 1, 0, 0)] [] (by decide +kernel) rfl trivial ?_
    exact go_reti (by decide +kernel) rfl (pve (by rw [show s = 32 by omega]))
  · skip
    replace c1 : ¬ 32 ≤ s := fun zz => c1 ((nx_le (a := 32) (b := s) rfl rfl (by omega) (by omega)).mpr zz)
    refine go_blk (pc2 := 16) (L2 := [.ref 0, .int (nI (cntw A dm ncl s)), .int (nI s)]) (st2 := [.int (nI s), .ref 0]) (M2 := (A, G, PF)) (hs2 := []) (C := True) [(.aload_n 0, 0, 0), (.iload_n 2, 0, 0)] [] (by decide +kernel) rfl trivial ?_
    refine go_call (Y2 := mX5_isWorld) (n2 := 27) (st := []) [.ref 0] [.int (nI s)] ck_5_103 cwX5_isWorld rfl (by decide +kernel) rfl (fun h => absurd h (by decide)) (fun _ => ⟨0, rfl, by decide, rfl⟩) (Nat.le_of_ble_eq_true rfl) (Or.inl rfl) (fun _ _ _ h => h) (s_X5_isWorld l A G dm ncl hK s (by omega)) (fun v M2 hp2 => ?_)
    obtain ⟨rfl, rfl⟩ := hp2
    rcases Classical.em (Wd A dm ncl s) with hb3 | hb3
    · rw [bi_t hb3]
      show Go l ro0 mX5_worlds 27 (A, G, PF) 19 [.ref 0, .int (nI (cntw A dm ncl s)), .int (nI s)] [.int 1] 27 _
      refine go_ifz (cnd := .eq) (off := 6) 25 (by decide +kernel) (by decide) (fun (h : (1 : Int32) = 0) => absurd h (by decide)) (fun _ => ?_)
      refine go_blk (pc2 := 28) (L2 := [.ref 0, .int ((nI (cntw A dm ncl s)) + 1), .int ((nI s) + 1)]) (st2 := []) (M2 := (A, G, PF)) (hs2 := []) (C := True) [(.iinc 1 1, 0, 0), (.iinc 2 1, 0, 0)] [] (by decide +kernel) rfl trivial ?_
      refine go_goto (off := -20) 8 (by decide +kernel) (by decide) ?_
      exact go_as (ih (by omega) ) rfl (by first | rw [cntw_t (by assumption), nI_1, nI_1] | rw [cntw_f (by assumption), nI_1]) rfl
    · rw [bi_f hb3]
      show Go l ro0 mX5_worlds 27 (A, G, PF) 19 [.ref 0, .int (nI (cntw A dm ncl s)), .int (nI s)] [.int 0] 27 _
      refine go_ifz (cnd := .eq) (off := 6) 25 (by decide +kernel) (by decide) (fun _ => ?_) (fun (h : ¬ (0 : Int32) = 0) => absurd h (by decide))
      refine go_blk (pc2 := 28) (L2 := [.ref 0, .int (nI (cntw A dm ncl s)), .int ((nI s) + 1)]) (st2 := []) (M2 := (A, G, PF)) (hs2 := []) (C := True) [(.iinc 2 1, 0, 0)] [] (by decide +kernel) rfl trivial ?_
      refine go_goto (off := -20) 8 (by decide +kernel) (by decide) ?_
      exact go_as (ih (by omega) ) rfl (by first | rw [cntw_t (by assumption), nI_1, nI_1] | rw [cntw_f (by assumption), nI_1]) rfl
set_option maxRecDepth 100000 in
set_option maxHeartbeats 4000000 in
theorem s_X5_worlds (l : Launch) (A : Nat → Nat → Int32) (G : Nat → Nat → Int64) (dm ncl : Nat) (hK : KI A dm ncl) (hst : A 0 5 = 0 → ∃ cnt, CacheI A cnt) : Sem l mX5_worlds [.ref 0] 27 (A, G, PF) 27 (rfp A G (fun A2 => nI (cntw A2 dm ncl 32))) := by
  refine sem_of_go (by decide) rfl (by decide) (by decide) rfl (Nat.le_of_ble_eq_true rfl) ?_
  show Go l ro0 mX5_worlds 27 (A, G, PF) 0 [.ref 0, .null, .null] [] 27 (rfp A G (fun A2 => nI (cntw A2 dm ncl 32)))
  refine go_blk (pc2 := 1) (L2 := [.ref 0, .null, .null]) (st2 := [.ref 0]) (M2 := (A, G, PF)) (hs2 := []) (C := True) [(.aload_n 0, 0, 0)] [] (by decide +kernel) rfl trivial ?_
  refine go_call (Y2 := mX5_refresh) (n2 := 27) (st := []) [.ref 0] [] ck_5_100 cwX5_refresh rfl (by decide +kernel) rfl (fun h => absurd h (by decide)) (fun _ => ⟨0, rfl, by decide, rfl⟩) (Nat.le_of_ble_eq_true rfl) (Or.inl rfl) (fun _ _ _ h => h) (s_X5_refresh l A G dm ncl hK hst) (fun v M2 hp1 => ?_)
  obtain ⟨rfl, A2, cnt, rfl, hCa, hRf, hs0⟩ := hp1
  have hK2 := hK.rf hRf
  show Go l ro0 mX5_worlds 27 (A2, G, PF) 4 [.ref 0, .null, .null] [] 27 _
  refine go_blk (pc2 := 8) (L2 := [.ref 0, .int 0, .int 0]) (st2 := []) (M2 := (A2, G, PF)) (hs2 := []) (C := True) [(.iconst 0, 0, 0), (.istore_n 1, 0, 0), (.iconst 0, 0, 0), (.istore_n 2, 0, 0)] [] (by decide +kernel) rfl trivial ?_
  exact Go.mono (lp_X5_worlds l A2 G dm ncl hK2 0 (by omega)) (by rintro _ _ ⟨rfl, rfl⟩; exact ⟨A2, cnt, rfl, hCa, hRf, hs0, rfl⟩)
set_option maxRecDepth 100000 in
set_option maxHeartbeats 4000000 in
theorem s_X5_world (l : Launch) (A : Nat → Nat → Int32) (G : Nat → Nat → Int64) (dm ncl : Nat) (hK : KI A dm ncl) (hst : A 0 5 = 0 → ∃ cnt, CacheI A cnt) (x : Int32) : Sem l mX5_world [.ref 0, .int x] 27 (A, G, PF) 27 (rfp A G (fun A2 => bi (∃ m, m < 32 ∧ x &&& nI dm = nI m ∧ Wd A2 dm ncl m))) := by
  refine sem_of_go (by decide) rfl (by decide) (by decide) rfl (Nat.le_of_ble_eq_true rfl) ?_
  show Go l ro0 mX5_world 27 (A, G, PF) 0 [.ref 0, .int x] [] 27 (rfp A G (fun A2 => bi (∃ m, m < 32 ∧ x &&& nI dm = nI m ∧ Wd A2 dm ncl m)))
  refine go_blk (pc2 := 1) (L2 := [.ref 0, .int x]) (st2 := [.ref 0]) (M2 := (A, G, PF)) (hs2 := []) (C := True) [(.aload_n 0, 0, 0)] [] (by decide +kernel) rfl trivial ?_
  refine go_call (Y2 := mX5_refresh) (n2 := 27) (st := []) [.ref 0] [] ck_5_100 cwX5_refresh rfl (by decide +kernel) rfl (fun h => absurd h (by decide)) (fun _ => ⟨0, rfl, by decide, rfl⟩) (Nat.le_of_ble_eq_true rfl) (Or.inl rfl) (fun _ _ _ h => h) (s_X5_refresh l A G dm ncl hK hst) (fun v M2 hp1 => ?_)
  obtain ⟨rfl, A2, cnt, rfl, hCa, hRf, hs0⟩ := hp1
  have hK2 := hK.rf hRf
  show Go l ro0 mX5_world 27 (A2, G, PF) 4 [.ref 0, .int x] [] 27 _
  refine go_blk (pc2 := 10) (L2 := [.ref 0, .int x]) (st2 := [.ref 1, .int x, .ref 0]) (M2 := (A2, G, PF)) (hs2 := []) (C := True) [(.aload_n 0, 0, 0), (.iload_n 1, 0, 0), (.aload_n 0, 0, 0), (.getfield 12, 5, 0)] [] (by decide +kernel) rfl trivial ?_
  refine go_call (Y2 := mX0_defined) (n2 := 27) (st := [.int x, .ref 0]) [.ref 1] [] ck_5_106 cwX0_defined rfl (by decide +kernel) rfl (fun h => absurd h (by decide)) (fun _ => ⟨1, rfl, by decide, rfl⟩) (Nat.le_of_ble_eq_true rfl) (Or.inl rfl) (fun _ _ _ h => h) (s_X0_defined l A2 G) (fun v M2 hp2 => ?_)
  obtain ⟨rfl, rfl⟩ := hp2
  obtain ⟨m, hm32, hm⟩ := and32 x dm hK2.2.2.2.1
  show Go l ro0 mX5_world 27 (A2, G, PF) 13 [.ref 0, .int x] [.int (A2 1 7), .int x, .ref 0] 27 _
  refine go_blk (pc2 := 14) (L2 := [.ref 0, .int x]) (st2 := [.int (x &&& (A2 1 7)), .ref 0]) (M2 := (A2, G, PF)) (hs2 := []) (C := True) [(.iand, 0, 0)] [] (by decide +kernel) rfl trivial ?_
  refine go_call (Y2 := mX5_isWorld) (n2 := 27) (st := []) [.ref 0] [.int (x &&& (A2 1 7))] ck_5_103 cwX5_isWorld rfl (by decide +kernel) rfl (fun h => absurd h (by decide)) (fun _ => ⟨0, rfl, by decide, rfl⟩) (Nat.le_of_ble_eq_true rfl) (Or.inl rfl) (fun _ _ _ h => h) (by rw [hK2.2.2.1, hm]; exact s_X5_isWorld l A2 G dm ncl hK2 m hm32) (fun v M2 hp3 => ?_)
  obtain ⟨rfl, rfl⟩ := hp3
  show Go l ro0 mX5_world 27 (A2, G, PF) 17 [.ref 0, .int x] [.int (bi (Wd A2 dm ncl m))] 27 _
  exact go_retz (by decide +kernel) rfl (bi_01 _) (⟨A2, cnt, rfl, hCa, hRf, hs0, by rw [bi_c (show Wd A2 dm ncl m ↔ ∃ m, m < 32 ∧ x &&& nI dm = nI m ∧ Wd A2 dm ncl m from ⟨fun h => ⟨m, hm32, hm, h⟩, fun ⟨m2, h1, h2, h3⟩ => by rw [nI_inj (by omega) (by omega) (hm.symm.trans h2)]; exact h3⟩)]⟩)
set_option maxRecDepth 100000 in
set_option maxHeartbeats 4000000 in
theorem lp_X5_holds (l : Launch) (A : Nat → Nat → Int32) (G : Nat → Nat → Int64) (dm ncl : Nat) (hK : KI A dm ncl) (m : Nat) (hm : m < 10) (x : Int32) (hx : x = nI m) : ∀ k, k ≤ 32 → ∀ (sw ew : Int32) (j : Value), sw = bi (SW A dm ncl m k) → ew = bi (EW A dm ncl m k) → Go l ro0 mX5_holds 27 (A, G, PF) 21 [.ref 0, .int x, .int sw, .int ew, .int (nI k), j] [] 27 (pv (hv A dm ncl m) (A, G, PF)) := by
  refine down 32 (fun k hk ih sw ew j hsw hew => ?_)
  refine go_blk (pc2 := 25) (L2 := [.ref 0, .int x, .int sw, .int ew, .int (nI k), j]) (st2 := [.int 32, .int (nI k)]) (M2 := (A, G, PF)) (hs2 := []) (C := True) [(.iload 4, 0, 0), (.bipush 32, 0, 0)] [] (by decide +kernel) rfl trivial ?_
  refine go_cmp (cnd := .ge) (off := 56) 81 (by decide +kernel) (by decide) (fun (c1 : 32 ≤ (nI k)) => ?_) (fun (c1 : ¬ 32 ≤ (nI k)) => ?_)
  · skip
    replace c1 : 32 ≤ k := (nx_le (a := 32) (b := k) rfl rfl (by omega) (by omega)).mp c1
    refine go_blk (pc2 := 82) (L2 := [.ref 0, .int x, .int sw, .int ew, .int (nI k), j]) (st2 := [.int sw]) (M2 := (A, G, PF)) (hs2 := []) (C := True) [(.iload_n 2, 0, 0)] [] (by decide +kernel) rfl trivial ?_
    refine go_ifz (cnd := .ne) (off := 5) 87 (by decide +kernel) (by decide) (fun (c2 : ¬ sw = 0) => ?_) (fun (c2 : sw = 0) => ?_)
    · skip
      rw [hsw] at c2
      replace c2 := bi_n.mp c2
      rw [show k = 32 by omega] at c2
      refine go_blk (pc2 := 88) (L2 := [.ref 0, .int x, .int sw, .int ew, .int (nI k), j]) (st2 := [.int ew]) (M2 := (A, G, PF)) (hs2 := []) (C := True) [(.iload_n 3, 0, 0)] [] (by decide +kernel) rfl trivial ?_
      refine go_ifz (cnd := .eq) (off := 7) 95 (by decide +kernel) (by decide) (fun (c3 : ew = 0) => ?_) (fun (c3 : ¬ ew = 0) => ?_)
      · skip
        rw [hew] at c3
        replace c3 := bi_z.mp c3
        rw [show k = 32 by omega] at c3
        refine go_blk (pc2 := 96) (L2 := [.ref 0, .int x, .int sw, .int ew, .int (nI k), j]) (st2 := [.int 1]) (M2 := (A, G, PF)) (hs2 := []) (C := True) [(.iconst 1, 0, 0)] [] (by decide +kernel) rfl trivial ?_
        exact go_reti (by decide +kernel) rfl (pve (by unfold hv; first | rw [if_neg (by assumption)] | rw [if_pos (by assumption), if_pos (by assumption)] | rw [if_pos (by assumption), if_neg (by assumption)]))
      · skip
        rw [hew] at c3
        replace c3 := bi_n.mp c3
        rw [show k = 32 by omega] at c3
        refine go_blk (pc2 := 92) (L2 := [.ref 0, .int x, .int sw, .int ew, .int (nI k), j]) (st2 := [.int 2]) (M2 := (A, G, PF)) (hs2 := []) (C := True) [(.iconst 2, 0, 0)] [] (by decide +kernel) rfl trivial ?_
        refine go_goto (off := 4) 96 (by decide +kernel) (by decide) ?_
        exact go_reti (by decide +kernel) rfl (pve (by unfold hv; first | rw [if_neg (by assumption)] | rw [if_pos (by assumption), if_pos (by assumption)] | rw [if_pos (by assumption), if_neg (by assumption)]))
    · skip
      rw [hsw] at c2
      replace c2 := bi_z.mp c2
      rw [show k = 32 by omega] at c2
      refine go_blk (pc2 := 86) (L2 := [.ref 0, .int x, .int sw, .int ew, .int (nI k), j]) (st2 := [.int 0]) (M2 := (A, G, PF)) (hs2 := []) (C := True) [(.iconst 0, 0, 0)] [] (by decide +kernel) rfl trivial ?_
      exact go_reti (by decide +kernel) rfl (pve (by unfold hv; first | rw [if_neg (by assumption)] | rw [if_pos (by assumption), if_pos (by assumption)] | rw [if_pos (by assumption), if_neg (by assumption)]))
  · skip
    replace c1 : ¬ 32 ≤ k := fun zz => c1 ((nx_le (a := 32) (b := k) rfl rfl (by omega) (by omega)).mpr zz)
    refine go_blk (pc2 := 31) (L2 := [.ref 0, .int x, .int sw, .int ew, .int (nI k), j]) (st2 := [.int (nI k), .ref 0]) (M2 := (A, G, PF)) (hs2 := []) (C := True) [(.aload_n 0, 0, 0), (.iload 4, 0, 0)] [] (by decide +kernel) rfl trivial ?_
    refine go_call (Y2 := mX5_isWorld) (n2 := 27) (st := []) [.ref 0] [.int (nI k)] ck_5_103 cwX5_isWorld rfl (by decide +kernel) rfl (fun h => absurd h (by decide)) (fun _ => ⟨0, rfl, by decide, rfl⟩) (Nat.le_of_ble_eq_true rfl) (Or.inl rfl) (fun _ _ _ h => h) (s_X5_isWorld l A G dm ncl hK k (by omega)) (fun v M2 hp4 => ?_)
    obtain ⟨rfl, rfl⟩ := hp4
    rcases Classical.em (Wd A dm ncl k) with hb5 | hb5
    · rw [bi_t hb5]
      show Go l ro0 mX5_holds 27 (A, G, PF) 34 [.ref 0, .int x, .int sw, .int ew, .int (nI k), j] [.int 1] 27 _
      refine go_ifz (cnd := .eq) (off := 41) 75 (by decide +kernel) (by decide) (fun (h : (1 : Int32) = 0) => absurd h (by decide)) (fun _ => ?_)
      refine go_blk (pc2 := 40) (L2 := [.ref 0, .int x, .int sw, .int ew, .int (nI k), j]) (st2 := [.int x, .int (nI k)]) (M2 := (A, G, PF)) (hs2 := []) (C := True) [(.iload 4, 0, 0), (.iload_n 1, 0, 0)] [] (by decide +kernel) rfl trivial ?_
      refine go_call (Y2 := mX5_holdsIn) (n2 := 27) (st := []) [] [.int (nI k), .int x] ck_5_109 cwX5_holdsIn rfl (by decide +kernel) rfl (fun _ => rfl) (fun h => absurd rfl h) (Nat.le_of_ble_eq_true rfl) (Or.inl rfl) (fun _ _ _ h => h) (s_X5_holdsIn l A G k m (nI k) x (by omega) hm rfl hx) (fun v M2 hp6 => ?_)
      obtain ⟨rfl, rfl⟩ := hp6
      rcases Classical.em (HL k m) with hb7 | hb7
      · rw [bi_t hb7]
        show Go l ro0 mX5_holds 27 (A, G, PF) 43 [.ref 0, .int x, .int sw, .int ew, .int (nI k), j] [.int 1] 27 _
        refine go_blk (pc2 := 46) (L2 := [.ref 0, .int x, .int sw, .int ew, .int (nI k), .int 1]) (st2 := [.int sw]) (M2 := (A, G, PF)) (hs2 := []) (C := True) [(.istore 5, 0, 0), (.iload_n 2, 0, 0)] [] (by decide +kernel) rfl trivial ?_
        refine go_ifz (cnd := .ne) (off := 8) 54 (by decide +kernel) (by decide) (fun (c8 : ¬ sw = 0) => ?_) (fun (c8 : sw = 0) => ?_)
        · skip
          rw [hsw] at c8
          replace c8 := bi_n.mp c8
          refine go_blk (pc2 := 55) (L2 := [.ref 0, .int x, .int sw, .int ew, .int (nI k), .int 1]) (st2 := [.int 1]) (M2 := (A, G, PF)) (hs2 := []) (C := True) [(.iconst 1, 0, 0)] [] (by decide +kernel) rfl trivial ?_
          refine go_goto (off := 4) 59 (by decide +kernel) (by decide) ?_
          refine go_blk (pc2 := 61) (L2 := [.ref 0, .int x, .int 1, .int ew, .int (nI k), .int 1]) (st2 := [.int ew]) (M2 := (A, G, PF)) (hs2 := []) (C := True) [(.istore_n 2, 0, 0), (.iload_n 3, 0, 0)] [] (by decide +kernel) rfl trivial ?_
          refine go_ifz (cnd := .eq) (off := 12) 73 (by decide +kernel) (by decide) (fun (c9 : ew = 0) => ?_) (fun (c9 : ¬ ew = 0) => ?_)
          · skip
            rw [hew] at c9
            replace c9 := bi_z.mp c9
            refine go_blk (pc2 := 78) (L2 := [.ref 0, .int x, .int 1, .int 0, .int ((nI k) + 1), .int 1]) (st2 := []) (M2 := (A, G, PF)) (hs2 := []) (C := True) [(.iconst 0, 0, 0), (.istore_n 3, 0, 0), (.iinc 4 1, 0, 0)] [] (by decide +kernel) rfl trivial ?_
            refine go_goto (off := -57) 21 (by decide +kernel) (by decide) ?_
            exact go_as (ih (by omega) 1 0 (.int 1) (by rw [bi_c SWs]; first | rw [bi_t (Or.inl (by assumption))] | rw [bi_t (Or.inr ⟨by assumption, by assumption⟩)] | (rw [bi_f (fun zz => zz.elim (by assumption) (fun z2 => absurd z2.2 (by assumption)))]) | (rw [bi_f (fun zz => zz.elim (by assumption) (fun z2 => absurd z2.1 (by assumption)))]) | (rw [hsw]; exact bi_c ⟨Or.inl, fun zz => zz.elim id (fun z2 => absurd z2.1 (by assumption))⟩)) (by rw [bi_c EWs]; first | rw [bi_t ⟨by assumption, fun _ => by assumption⟩] | rw [bi_f (fun zz => absurd zz.1 (by assumption))] | rw [bi_f (fun zz => absurd (zz.2 (by assumption)) (by assumption))] | (rw [hew]; exact bi_c ⟨fun zz => ⟨zz, fun z2 => absurd z2 (by assumption)⟩, fun zz => zz.1⟩))) rfl (by simp only [nI_1]) rfl
          · skip
            rw [hew] at c9
            replace c9 := bi_n.mp c9
            refine go_blk (pc2 := 66) (L2 := [.ref 0, .int x, .int 1, .int ew, .int (nI k), .int 1]) (st2 := [.int 1]) (M2 := (A, G, PF)) (hs2 := []) (C := True) [(.iload 5, 0, 0)] [] (by decide +kernel) rfl trivial ?_
            refine go_ifz (cnd := .eq) (off := 7) 73 (by decide +kernel) (by decide) (fun (h : (1 : Int32) = 0) => absurd h (by decide)) (fun _ => ?_)
            refine go_blk (pc2 := 70) (L2 := [.ref 0, .int x, .int 1, .int ew, .int (nI k), .int 1]) (st2 := [.int 1]) (M2 := (A, G, PF)) (hs2 := []) (C := True) [(.iconst 1, 0, 0)] [] (by decide +kernel) rfl trivial ?_
            refine go_goto (off := 4) 74 (by decide +kernel) (by decide) ?_
            refine go_blk (pc2 := 78) (L2 := [.ref 0, .int x, .int 1, .int 1, .int ((nI k) + 1), .int 1]) (st2 := []) (M2 := (A, G, PF)) (hs2 := []) (C := True) [(.istore_n 3, 0, 0), (.iinc 4 1, 0, 0)] [] (by decide +kernel) rfl trivial ?_
            refine go_goto (off := -57) 21 (by decide +kernel) (by decide) ?_
            exact go_as (ih (by omega) 1 1 (.int 1) (by rw [bi_c SWs]; first | rw [bi_t (Or.inl (by assumption))] | rw [bi_t (Or.inr ⟨by assumption, by assumption⟩)] | (rw [bi_f (fun zz => zz.elim (by assumption) (fun z2 => absurd z2.2 (by assumption)))]) | (rw [bi_f (fun zz => zz.elim (by assumption) (fun z2 => absurd z2.1 (by assumption)))]) | (rw [hsw]; exact bi_c ⟨Or.inl, fun zz => zz.elim id (fun z2 => absurd z2.1 (by assumption))⟩)) (by rw [bi_c EWs]; first | rw [bi_t ⟨by assumption, fun _ => by assumption⟩] | rw [bi_f (fun zz => absurd zz.1 (by assumption))] | rw [bi_f (fun zz => absurd (zz.2 (by assumption)) (by assumption))] | (rw [hew]; exact bi_c ⟨fun zz => ⟨zz, fun z2 => absurd z2 (by assumption)⟩, fun zz => zz.1⟩))) rfl (by simp only [nI_1]) rfl
        · skip
          rw [hsw] at c8
          replace c8 := bi_z.mp c8
          refine go_blk (pc2 := 51) (L2 := [.ref 0, .int x, .int sw, .int ew, .int (nI k), .int 1]) (st2 := [.int 1]) (M2 := (A, G, PF)) (hs2 := []) (C := True) [(.iload 5, 0, 0)] [] (by decide +kernel) rfl trivial ?_
          refine go_ifz (cnd := .eq) (off := 7) 58 (by decide +kernel) (by decide) (fun (h : (1 : Int32) = 0) => absurd h (by decide)) (fun _ => ?_)
          refine go_blk (pc2 := 55) (L2 := [.ref 0, .int x, .int sw, .int ew, .int (nI k), .int 1]) (st2 := [.int 1]) (M2 := (A, G, PF)) (hs2 := []) (C := True) [(.iconst 1, 0, 0)] [] (by decide +kernel) rfl trivial ?_
          refine go_goto (off := 4) 59 (by decide +kernel) (by decide) ?_
          refine go_blk (pc2 := 61) (L2 := [.ref 0, .int x, .int 1, .int ew, .int (nI k), .int 1]) (st2 := [.int ew]) (M2 := (A, G, PF)) (hs2 := []) (C := True) [(.istore_n 2, 0, 0), (.iload_n 3, 0, 0)] [] (by decide +kernel) rfl trivial ?_
          refine go_ifz (cnd := .eq) (off := 12) 73 (by decide +kernel) (by decide) (fun (c10 : ew = 0) => ?_) (fun (c10 : ¬ ew = 0) => ?_)
          · skip
            rw [hew] at c10
            replace c10 := bi_z.mp c10
            refine go_blk (pc2 := 78) (L2 := [.ref 0, .int x, .int 1, .int 0, .int ((nI k) + 1), .int 1]) (st2 := []) (M2 := (A, G, PF)) (hs2 := []) (C := True) [(.iconst 0, 0, 0), (.istore_n 3, 0, 0), (.iinc 4 1, 0, 0)] [] (by decide +kernel) rfl trivial ?_
            refine go_goto (off := -57) 21 (by decide +kernel) (by decide) ?_
            exact go_as (ih (by omega) 1 0 (.int 1) (by rw [bi_c SWs]; first | rw [bi_t (Or.inl (by assumption))] | rw [bi_t (Or.inr ⟨by assumption, by assumption⟩)] | (rw [bi_f (fun zz => zz.elim (by assumption) (fun z2 => absurd z2.2 (by assumption)))]) | (rw [bi_f (fun zz => zz.elim (by assumption) (fun z2 => absurd z2.1 (by assumption)))]) | (rw [hsw]; exact bi_c ⟨Or.inl, fun zz => zz.elim id (fun z2 => absurd z2.1 (by assumption))⟩)) (by rw [bi_c EWs]; first | rw [bi_t ⟨by assumption, fun _ => by assumption⟩] | rw [bi_f (fun zz => absurd zz.1 (by assumption))] | rw [bi_f (fun zz => absurd (zz.2 (by assumption)) (by assumption))] | (rw [hew]; exact bi_c ⟨fun zz => ⟨zz, fun z2 => absurd z2 (by assumption)⟩, fun zz => zz.1⟩))) rfl (by simp only [nI_1]) rfl
          · skip
            rw [hew] at c10
            replace c10 := bi_n.mp c10
            refine go_blk (pc2 := 66) (L2 := [.ref 0, .int x, .int 1, .int ew, .int (nI k), .int 1]) (st2 := [.int 1]) (M2 := (A, G, PF)) (hs2 := []) (C := True) [(.iload 5, 0, 0)] [] (by decide +kernel) rfl trivial ?_
            refine go_ifz (cnd := .eq) (off := 7) 73 (by decide +kernel) (by decide) (fun (h : (1 : Int32) = 0) => absurd h (by decide)) (fun _ => ?_)
            refine go_blk (pc2 := 70) (L2 := [.ref 0, .int x, .int 1, .int ew, .int (nI k), .int 1]) (st2 := [.int 1]) (M2 := (A, G, PF)) (hs2 := []) (C := True) [(.iconst 1, 0, 0)] [] (by decide +kernel) rfl trivial ?_
            refine go_goto (off := 4) 74 (by decide +kernel) (by decide) ?_
            refine go_blk (pc2 := 78) (L2 := [.ref 0, .int x, .int 1, .int 1, .int ((nI k) + 1), .int 1]) (st2 := []) (M2 := (A, G, PF)) (hs2 := []) (C := True) [(.istore_n 3, 0, 0), (.iinc 4 1, 0, 0)] [] (by decide +kernel) rfl trivial ?_
            refine go_goto (off := -57) 21 (by decide +kernel) (by decide) ?_
            exact go_as (ih (by omega) 1 1 (.int 1) (by rw [bi_c SWs]; first | rw [bi_t (Or.inl (by assumption))] | rw [bi_t (Or.inr ⟨by assumption, by assumption⟩)] | (rw [bi_f (fun zz => zz.elim (by assumption) (fun z2 => absurd z2.2 (by assumption)))]) | (rw [bi_f (fun zz => zz.elim (by assumption) (fun z2 => absurd z2.1 (by assumption)))]) | (rw [hsw]; exact bi_c ⟨Or.inl, fun zz => zz.elim id (fun z2 => absurd z2.1 (by assumption))⟩)) (by rw [bi_c EWs]; first | rw [bi_t ⟨by assumption, fun _ => by assumption⟩] | rw [bi_f (fun zz => absurd zz.1 (by assumption))] | rw [bi_f (fun zz => absurd (zz.2 (by assumption)) (by assumption))] | (rw [hew]; exact bi_c ⟨fun zz => ⟨zz, fun z2 => absurd z2 (by assumption)⟩, fun zz => zz.1⟩))) rfl (by simp only [nI_1]) rfl
      · rw [bi_f hb7]
        show Go l ro0 mX5_holds 27 (A, G, PF) 43 [.ref 0, .int x, .int sw, .int ew, .int (nI k), j] [.int 0] 27 _
        refine go_blk (pc2 := 46) (L2 := [.ref 0, .int x, .int sw, .int ew, .int (nI k), .int 0]) (st2 := [.int sw]) (M2 := (A, G, PF)) (hs2 := []) (C := True) [(.istore 5, 0, 0), (.iload_n 2, 0, 0)] [] (by decide +kernel) rfl trivial ?_
        refine go_ifz (cnd := .ne) (off := 8) 54 (by decide +kernel) (by decide) (fun (c11 : ¬ sw = 0) => ?_) (fun (c11 : sw = 0) => ?_)
        · skip
          rw [hsw] at c11
          replace c11 := bi_n.mp c11
          refine go_blk (pc2 := 55) (L2 := [.ref 0, .int x, .int sw, .int ew, .int (nI k), .int 0]) (st2 := [.int 1]) (M2 := (A, G, PF)) (hs2 := []) (C := True) [(.iconst 1, 0, 0)] [] (by decide +kernel) rfl trivial ?_
          refine go_goto (off := 4) 59 (by decide +kernel) (by decide) ?_
          refine go_blk (pc2 := 61) (L2 := [.ref 0, .int x, .int 1, .int ew, .int (nI k), .int 0]) (st2 := [.int ew]) (M2 := (A, G, PF)) (hs2 := []) (C := True) [(.istore_n 2, 0, 0), (.iload_n 3, 0, 0)] [] (by decide +kernel) rfl trivial ?_
          refine go_ifz (cnd := .eq) (off := 12) 73 (by decide +kernel) (by decide) (fun (c12 : ew = 0) => ?_) (fun (c12 : ¬ ew = 0) => ?_)
          · skip
            rw [hew] at c12
            replace c12 := bi_z.mp c12
            refine go_blk (pc2 := 78) (L2 := [.ref 0, .int x, .int 1, .int 0, .int ((nI k) + 1), .int 0]) (st2 := []) (M2 := (A, G, PF)) (hs2 := []) (C := True) [(.iconst 0, 0, 0), (.istore_n 3, 0, 0), (.iinc 4 1, 0, 0)] [] (by decide +kernel) rfl trivial ?_
            refine go_goto (off := -57) 21 (by decide +kernel) (by decide) ?_
            exact go_as (ih (by omega) 1 0 (.int 0) (by rw [bi_c SWs]; first | rw [bi_t (Or.inl (by assumption))] | rw [bi_t (Or.inr ⟨by assumption, by assumption⟩)] | (rw [bi_f (fun zz => zz.elim (by assumption) (fun z2 => absurd z2.2 (by assumption)))]) | (rw [bi_f (fun zz => zz.elim (by assumption) (fun z2 => absurd z2.1 (by assumption)))]) | (rw [hsw]; exact bi_c ⟨Or.inl, fun zz => zz.elim id (fun z2 => absurd z2.1 (by assumption))⟩)) (by rw [bi_c EWs]; first | rw [bi_t ⟨by assumption, fun _ => by assumption⟩] | rw [bi_f (fun zz => absurd zz.1 (by assumption))] | rw [bi_f (fun zz => absurd (zz.2 (by assumption)) (by assumption))] | (rw [hew]; exact bi_c ⟨fun zz => ⟨zz, fun z2 => absurd z2 (by assumption)⟩, fun zz => zz.1⟩))) rfl (by simp only [nI_1]) rfl
          · skip
            rw [hew] at c12
            replace c12 := bi_n.mp c12
            refine go_blk (pc2 := 66) (L2 := [.ref 0, .int x, .int 1, .int ew, .int (nI k), .int 0]) (st2 := [.int 0]) (M2 := (A, G, PF)) (hs2 := []) (C := True) [(.iload 5, 0, 0)] [] (by decide +kernel) rfl trivial ?_
            refine go_ifz (cnd := .eq) (off := 7) 73 (by decide +kernel) (by decide) (fun _ => ?_) (fun (h : ¬ (0 : Int32) = 0) => absurd h (by decide))
            refine go_blk (pc2 := 78) (L2 := [.ref 0, .int x, .int 1, .int 0, .int ((nI k) + 1), .int 0]) (st2 := []) (M2 := (A, G, PF)) (hs2 := []) (C := True) [(.iconst 0, 0, 0), (.istore_n 3, 0, 0), (.iinc 4 1, 0, 0)] [] (by decide +kernel) rfl trivial ?_
            refine go_goto (off := -57) 21 (by decide +kernel) (by decide) ?_
            exact go_as (ih (by omega) 1 0 (.int 0) (by rw [bi_c SWs]; first | rw [bi_t (Or.inl (by assumption))] | rw [bi_t (Or.inr ⟨by assumption, by assumption⟩)] | (rw [bi_f (fun zz => zz.elim (by assumption) (fun z2 => absurd z2.2 (by assumption)))]) | (rw [bi_f (fun zz => zz.elim (by assumption) (fun z2 => absurd z2.1 (by assumption)))]) | (rw [hsw]; exact bi_c ⟨Or.inl, fun zz => zz.elim id (fun z2 => absurd z2.1 (by assumption))⟩)) (by rw [bi_c EWs]; first | rw [bi_t ⟨by assumption, fun _ => by assumption⟩] | rw [bi_f (fun zz => absurd zz.1 (by assumption))] | rw [bi_f (fun zz => absurd (zz.2 (by assumption)) (by assumption))] | (rw [hew]; exact bi_c ⟨fun zz => ⟨zz, fun z2 => absurd z2 (by assumption)⟩, fun zz => zz.1⟩))) rfl (by simp only [nI_1]) rfl
        · skip
          rw [hsw] at c11
          replace c11 := bi_z.mp c11
          refine go_blk (pc2 := 51) (L2 := [.ref 0, .int x, .int sw, .int ew, .int (nI k), .int 0]) (st2 := [.int 0]) (M2 := (A, G, PF)) (hs2 := []) (C := True) [(.iload 5, 0, 0)] [] (by decide +kernel) rfl trivial ?_
          refine go_ifz (cnd := .eq) (off := 7) 58 (by decide +kernel) (by decide) (fun _ => ?_) (fun (h : ¬ (0 : Int32) = 0) => absurd h (by decide))
          refine go_blk (pc2 := 61) (L2 := [.ref 0, .int x, .int 0, .int ew, .int (nI k), .int 0]) (st2 := [.int ew]) (M2 := (A, G, PF)) (hs2 := []) (C := True) [(.iconst 0, 0, 0), (.istore_n 2, 0, 0), (.iload_n 3, 0, 0)] [] (by decide +kernel) rfl trivial ?_
          refine go_ifz (cnd := .eq) (off := 12) 73 (by decide +kernel) (by decide) (fun (c13 : ew = 0) => ?_) (fun (c13 : ¬ ew = 0) => ?_)
          · skip
            rw [hew] at c13
            replace c13 := bi_z.mp c13
            refine go_blk (pc2 := 78) (L2 := [.ref 0, .int x, .int 0, .int 0, .int ((nI k) + 1), .int 0]) (st2 := []) (M2 := (A, G, PF)) (hs2 := []) (C := True) [(.iconst 0, 0, 0), (.istore_n 3, 0, 0), (.iinc 4 1, 0, 0)] [] (by decide +kernel) rfl trivial ?_
            refine go_goto (off := -57) 21 (by decide +kernel) (by decide) ?_
            exact go_as (ih (by omega) 0 0 (.int 0) (by rw [bi_c SWs]; first | rw [bi_t (Or.inl (by assumption))] | rw [bi_t (Or.inr ⟨by assumption, by assumption⟩)] | (rw [bi_f (fun zz => zz.elim (by assumption) (fun z2 => absurd z2.2 (by assumption)))]) | (rw [bi_f (fun zz => zz.elim (by assumption) (fun z2 => absurd z2.1 (by assumption)))]) | (rw [hsw]; exact bi_c ⟨Or.inl, fun zz => zz.elim id (fun z2 => absurd z2.1 (by assumption))⟩)) (by rw [bi_c EWs]; first | rw [bi_t ⟨by assumption, fun _ => by assumption⟩] | rw [bi_f (fun zz => absurd zz.1 (by assumption))] | rw [bi_f (fun zz => absurd (zz.2 (by assumption)) (by assumption))] | (rw [hew]; exact bi_c ⟨fun zz => ⟨zz, fun z2 => absurd z2 (by assumption)⟩, fun zz => zz.1⟩))) rfl (by simp only [nI_1]) rfl
          · skip
            rw [hew] at c13
            replace c13 := bi_n.mp c13
            refine go_blk (pc2 := 66) (L2 := [.ref 0, .int x, .int 0, .int ew, .int (nI k), .int 0]) (st2 := [.int 0]) (M2 := (A, G, PF)) (hs2 := []) (C := True) [(.iload 5, 0, 0)] [] (by decide +kernel) rfl trivial ?_
            refine go_ifz (cnd := .eq) (off := 7) 73 (by decide +kernel) (by decide) (fun _ => ?_) (fun (h : ¬ (0 : Int32) = 0) => absurd h (by decide))
            refine go_blk (pc2 := 78) (L2 := [.ref 0, .int x, .int 0, .int 0, .int ((nI k) + 1), .int 0]) (st2 := []) (M2 := (A, G, PF)) (hs2 := []) (C := True) [(.iconst 0, 0, 0), (.istore_n 3, 0, 0), (.iinc 4 1, 0, 0)] [] (by decide +kernel) rfl trivial ?_
            refine go_goto (off := -57) 21 (by decide +kernel) (by decide) ?_
            exact go_as (ih (by omega) 0 0 (.int 0) (by rw [bi_c SWs]; first | rw [bi_t (Or.inl (by assumption))] | rw [bi_t (Or.inr ⟨by assumption, by assumption⟩)] | (rw [bi_f (fun zz => zz.elim (by assumption) (fun z2 => absurd z2.2 (by assumption)))]) | (rw [bi_f (fun zz => zz.elim (by assumption) (fun z2 => absurd z2.1 (by assumption)))]) | (rw [hsw]; exact bi_c ⟨Or.inl, fun zz => zz.elim id (fun z2 => absurd z2.1 (by assumption))⟩)) (by rw [bi_c EWs]; first | rw [bi_t ⟨by assumption, fun _ => by assumption⟩] | rw [bi_f (fun zz => absurd zz.1 (by assumption))] | rw [bi_f (fun zz => absurd (zz.2 (by assumption)) (by assumption))] | (rw [hew]; exact bi_c ⟨fun zz => ⟨zz, fun z2 => absurd z2 (by assumption)⟩, fun zz => zz.1⟩))) rfl (by simp only [nI_1]) rfl
    · rw [bi_f hb5]
      show Go l ro0 mX5_holds 27 (A, G, PF) 34 [.ref 0, .int x, .int sw, .int ew, .int (nI k), j] [.int 0] 27 _
      refine go_ifz (cnd := .eq) (off := 41) 75 (by decide +kernel) (by decide) (fun _ => ?_) (fun (h : ¬ (0 : Int32) = 0) => absurd h (by decide))
      refine go_blk (pc2 := 78) (L2 := [.ref 0, .int x, .int sw, .int ew, .int ((nI k) + 1), j]) (st2 := []) (M2 := (A, G, PF)) (hs2 := []) (C := True) [(.iinc 4 1, 0, 0)] [] (by decide +kernel) rfl trivial ?_
      refine go_goto (off := -57) 21 (by decide +kernel) (by decide) ?_
      exact go_as (ih (by omega) sw ew (j) (by rw [bi_c SWs]; first | rw [bi_t (Or.inl (by assumption))] | rw [bi_t (Or.inr ⟨by assumption, by assumption⟩)] | (rw [bi_f (fun zz => zz.elim (by assumption) (fun z2 => absurd z2.2 (by assumption)))]) | (rw [bi_f (fun zz => zz.elim (by assumption) (fun z2 => absurd z2.1 (by assumption)))]) | (rw [hsw]; exact bi_c ⟨Or.inl, fun zz => zz.elim id (fun z2 => absurd z2.1 (by assumption))⟩)) (by rw [bi_c EWs]; first | rw [bi_t ⟨by assumption, fun _ => by assumption⟩] | rw [bi_f (fun zz => absurd zz.1 (by assumption))] | rw [bi_f (fun zz => absurd (zz.2 (by assumption)) (by assumption))] | (rw [hew]; exact bi_c ⟨fun zz => ⟨zz, fun z2 => absurd z2 (by assumption)⟩, fun zz => zz.1⟩))) rfl (by simp only [nI_1]) rfl
set_option maxRecDepth 100000 in
set_option maxHeartbeats 4000000 in
theorem s_X5_holds (l : Launch) (A : Nat → Nat → Int32) (G : Nat → Nat → Int64) (dm ncl : Nat) (hK : KI A dm ncl) (hst : A 0 5 = 0 → ∃ cnt, CacheI A cnt) (x : Int32) : Sem l mX5_holds [.ref 0, .int x] 27 (A, G, PF) 27 (fun r M2 => (¬ Dfd dm x ∧ r = some (.int (-1)) ∧ M2 = (A, G, PF)) ∨ ∃ m, m < 10 ∧ x = nI m ∧ dm.testBit (m / 2) = true ∧ rfp A G (fun A2 => hv A2 dm ncl m) r M2) := by
  refine sem_of_go (by decide) rfl (by decide) (by decide) rfl (Nat.le_of_ble_eq_true rfl) ?_
  show Go l ro0 mX5_holds 27 (A, G, PF) 0 [.ref 0, .int x, .null, .null, .null, .null] [] 27 (fun r M2 => (¬ Dfd dm x ∧ r = some (.int (-1)) ∧ M2 = (A, G, PF)) ∨ ∃ m, m < 10 ∧ x = nI m ∧ dm.testBit (m / 2) = true ∧ rfp A G (fun A2 => hv A2 dm ncl m) r M2)
  refine go_blk (pc2 := 2) (L2 := [.ref 0, .int x, .null, .null, .null, .null]) (st2 := [.int x, .ref 0]) (M2 := (A, G, PF)) (hs2 := []) (C := True) [(.aload_n 0, 0, 0), (.iload_n 1, 0, 0)] [] (by decide +kernel) rfl trivial ?_
  refine go_call (Y2 := mX5_isDefined) (n2 := 27) (st := []) [.ref 0] [.int x] ck_5_77 cwX5_isDefined rfl (by decide +kernel) rfl (fun h => absurd h (by decide)) (fun _ => ⟨0, rfl, by decide, rfl⟩) (Nat.le_of_ble_eq_true rfl) (Or.inl rfl) (fun _ _ _ h => h) (s_X5_isDefined l A G dm hK.2.2.1 hK.2.2.2.1 x) (fun v M2 hp1 => ?_)
  obtain ⟨rfl, rfl⟩ := hp1
  rcases Classical.em (Dfd dm x) with hb2 | hb2
  · rw [bi_t hb2]
    show Go l ro0 mX5_holds 27 (A, G, PF) 5 [.ref 0, .int x, .null, .null, .null, .null] [.int 1] 27 _
    obtain ⟨m, hm, hx, htb⟩ := hb2
    refine go_ifz (cnd := .ne) (off := 5) 10 (by decide +kernel) (by decide) (fun _ => ?_) (fun (h : (1 : Int32) = 0) => absurd h (by decide))
    refine go_blk (pc2 := 11) (L2 := [.ref 0, .int x, .null, .null, .null, .null]) (st2 := [.ref 0]) (M2 := (A, G, PF)) (hs2 := []) (C := True) [(.aload_n 0, 0, 0)] [] (by decide +kernel) rfl trivial ?_
    refine go_call (Y2 := mX5_refresh) (n2 := 27) (st := []) [.ref 0] [] ck_5_100 cwX5_refresh rfl (by decide +kernel) rfl (fun h => absurd h (by decide)) (fun _ => ⟨0, rfl, by decide, rfl⟩) (Nat.le_of_ble_eq_true rfl) (Or.inl rfl) (fun _ _ _ h => h) (s_X5_refresh l A G dm ncl hK hst) (fun v M2 hp3 => ?_)
    obtain ⟨rfl, A2, cnt, rfl, hCa, hRf, hs0⟩ := hp3
    have hK2 := hK.rf hRf
    show Go l ro0 mX5_holds 27 (A2, G, PF) 14 [.ref 0, .int x, .null, .null, .null, .null] [] 27 _
    refine go_blk (pc2 := 21) (L2 := [.ref 0, .int x, .int 0, .int 1, .int 0, .null]) (st2 := []) (M2 := (A2, G, PF)) (hs2 := []) (C := True) [(.iconst 0, 0, 0), (.istore_n 2, 0, 0), (.iconst 1, 0, 0), (.istore_n 3, 0, 0), (.iconst 0, 0, 0), (.istore 4, 0, 0)] [] (by decide +kernel) rfl trivial ?_
    exact Go.mono (lp_X5_holds l A2 G dm ncl hK2 m hm x hx 0 (by omega) 0 1 _ (bi_f (fun ⟨s, h, _⟩ => absurd h (by omega))).symm (bi_t (fun s h => absurd h (by omega))).symm) (by rintro _ _ ⟨rfl, rfl⟩; exact Or.inr ⟨m, hm, hx, htb, A2, cnt, rfl, hCa, hRf, hs0, rfl⟩)
  · rw [bi_f hb2]
    show Go l ro0 mX5_holds 27 (A, G, PF) 5 [.ref 0, .int x, .null, .null, .null, .null] [.int 0] 27 _
    refine go_ifz (cnd := .ne) (off := 5) 10 (by decide +kernel) (by decide) (fun (h : ¬ (0 : Int32) = 0) => absurd h (by decide)) (fun _ => ?_)
    refine go_blk (pc2 := 9) (L2 := [.ref 0, .int x, .null, .null, .null, .null]) (st2 := [.int (-1)]) (M2 := (A, G, PF)) (hs2 := []) (C := True) [(.iconst (-1), 0, 0)] [] (by decide +kernel) rfl trivial ?_
    exact go_reti (by decide +kernel) rfl (Or.inl ⟨by assumption, rfl, rfl⟩)
set_option maxRecDepth 100000 in
set_option maxHeartbeats 4000000 in
theorem s_X5_top (l : Launch) (A : Nat → Nat → Int32) (G : Nat → Nat → Int64) (x : Int32) : Sem l mX5_top [.ref 0, .int x] 27 (A, G, PF) 27 (pl (if x = 0 then G 0 6 else if x = 1 then G 0 7 else 0) (A, G, PF)) := by
  refine sem_of_go (by decide) rfl (by decide) (by decide) rfl (Nat.le_of_ble_eq_true rfl) ?_
  show Go l ro0 mX5_top 27 (A, G, PF) 0 [.ref 0, .int x] [] 27 (pl (if x = 0 then G 0 6 else if x = 1 then G 0 7 else 0) (A, G, PF))
  refine go_blk (pc2 := 1) (L2 := [.ref 0, .int x]) (st2 := [.int x]) (M2 := (A, G, PF)) (hs2 := []) (C := True) [(.iload_n 1, 0, 0)] [] (by decide +kernel) rfl trivial ?_
  refine go_ifz (cnd := .ne) (off := 8) 9 (by decide +kernel) (by decide) (fun (c1 : ¬ x = 0) => ?_) (fun (c1 : x = 0) => ?_)
  · skip
    refine go_blk (pc2 := 11) (L2 := [.ref 0, .int x]) (st2 := [.int 1, .int x]) (M2 := (A, G, PF)) (hs2 := []) (C := True) [(.iload_n 1, 0, 0), (.iconst 1, 0, 0)] [] (by decide +kernel) rfl trivial ?_
    refine go_cmp (cnd := .ne) (off := 10) 21 (by decide +kernel) (by decide) (fun (c2 : ¬ x = 1) => ?_) (fun (c2 : x = 1) => ?_)
    · skip
      refine go_blk (pc2 := 22) (L2 := [.ref 0, .int x]) (st2 := [.long 0]) (M2 := (A, G, PF)) (hs2 := []) (C := True) [(.lconst 0, 0, 0)] [] (by decide +kernel) rfl trivial ?_
      exact go_retl (by decide +kernel) rfl (ple (by first | rw [if_pos (by assumption)] | rw [if_neg (by assumption), if_pos (by assumption)] | rw [if_neg (by assumption), if_neg (by assumption)]))
    · skip
      refine go_blk (pc2 := 18) (L2 := [.ref 0, .int x]) (st2 := [.long (G 0 7)]) (M2 := (A, G, PF)) (hs2 := []) (C := True) [(.aload_n 0, 0, 0), (.getfield 52, 5, 7)] [] (by decide +kernel) rfl trivial ?_
      refine go_goto (off := 4) 22 (by decide +kernel) (by decide) ?_
      exact go_retl (by decide +kernel) rfl (ple (by first | rw [if_pos (by assumption)] | rw [if_neg (by assumption), if_pos (by assumption)] | rw [if_neg (by assumption), if_neg (by assumption)]))
  · skip
    refine go_blk (pc2 := 8) (L2 := [.ref 0, .int x]) (st2 := [.long (G 0 6)]) (M2 := (A, G, PF)) (hs2 := []) (C := True) [(.aload_n 0, 0, 0), (.getfield 48, 5, 6)] [] (by decide +kernel) rfl trivial ?_
    exact go_retl (by decide +kernel) rfl (ple (by first | rw [if_pos (by assumption)] | rw [if_neg (by assumption), if_pos (by assumption)] | rw [if_neg (by assumption), if_neg (by assumption)]))
theorem ccf_c {A A2 : Nat → Nat → Int32} (h17 : A2 17 = A 17) (h18 : A2 18 = A 18) (h19 : A2 19 = A 19) (h20 : A2 20 = A 20) (h21 : A2 21 = A 21) (a b c nd : Int32) (k : Nat) : ccf A2 a b c nd k = ccf A a b c nd k := by
  induction k with
  | zero => rfl
  | succ k ih =>
    have ef : fit A2 nd k = fit A nd k := by simp only [fit, h21]
    have ev : vS A2 a b c k = vS A a b c k := by simp only [vS, h17, h18, h19]
    have ed : dS A2 k = dS A k := by simp only [dS, h20]
    rcases Classical.em (fit A nd k) with q | q
    · rw [ccf_t q, ccf_t (by rw [ef]; exact q), ih, ev, ed, h21]
    · rw [ccf_f q, ccf_f (by rw [ef]; exact q), ih]
noncomputable def pks (A : Nat → Nat → Int32) (a b c : Int32) (cnt : Nat) (t : Tr) (s : Nat) : Nat → Tr
  | 0 => t
  | p + 1 => @ite Tr (¬ A 23 (s * 5 + p) = 0) (Classical.propDecidable _) (incf (pks A a b c cnt t s p) (ccf A a b c (A 24 (s * 5 + p)) cnt) (A 25 (s * 5 + p))) (pks A a b c cnt t s p)
theorem pks_t {A : Nat → Nat → Int32} {a b c : Int32} {cnt s p : Nat} {t : Tr} (h : ¬ A 23 (s * 5 + p) = 0) : pks A a b c cnt t s (p + 1) = incf (pks A a b c cnt t s p) (ccf A a b c (A 24 (s * 5 + p)) cnt) (A 25 (s * 5 + p)) := if_pos h
theorem pks_f {A : Nat → Nat → Int32} {a b c : Int32} {cnt s p : Nat} {t : Tr} (h : ¬ ¬ A 23 (s * 5 + p) = 0) : pks A a b c cnt t s (p + 1) = pks A a b c cnt t s p := if_neg h
noncomputable def pkw (A : Nat → Nat → Int32) (a b c : Int32) (dm ncl cnt : Nat) : Nat → Tr
  | 0 => (0, 0, 0)
  | s + 1 => @ite Tr (Wd A dm ncl s) (Classical.propDecidable _) (pks A a b c cnt (pkw A a b c dm ncl cnt s) s 5) (pkw A a b c dm ncl cnt s)
theorem pkw_t {A : Nat → Nat → Int32} {a b c : Int32} {dm ncl cnt s : Nat} (h : Wd A dm ncl s) : pkw A a b c dm ncl cnt (s + 1) = pks A a b c cnt (pkw A a b c dm ncl cnt s) s 5 := if_pos h
theorem pkw_f {A : Nat → Nat → Int32} {a b c : Int32} {dm ncl cnt s : Nat} (h : ¬ Wd A dm ncl s) : pkw A a b c dm ncl cnt (s + 1) = pkw A a b c dm ncl cnt s := if_neg h
theorem PkF.row {A A2 : Nat → Nat → Int32} {G G2 : Nat → Nat → Int64} {t : Tr} (h : PkF A G A2 G2 t) {o : Nat} (ho : o ≠ 26) : A2 o = A o := by
  funext k
  exact h.1 o k (by omega)
set_option maxRecDepth 100000 in
set_option maxHeartbeats 4000000 in
theorem lp_X5_climbWorld (l : Launch) (A : Nat → Nat → Int32) (G : Nat → Nat → Int64) (cnt : Nat) (hc : A 12 9 = nI cnt) (hc364 : cnt ≤ 364) (s : Nat) (hs : s < 32) : ∀ p, p ≤ 5 → ∀ A2 G2, PkF A G A2 G2 (pks A (A 26 0) (A 26 1) (A 26 2) cnt (G 26 3, G 26 4, A 26 5) s p) → ∀ j : Value, Go l ro0 mX5_climbWorld 27 (A2, G2, PF) 2 [.ref 0, .int (nI s), .int (nI p), j] [] 27 (fun r M2 => r = none ∧ ∃ A2 G2, M2 = (A2, G2, PF) ∧ PkF A G A2 G2 (pks A (A 26 0) (A 26 1) (A 26 2) cnt (G 26 3, G 26 4, A 26 5) s 5)) := by
  refine down 5 (fun p hp ih A2 G2 hI j => ?_)
  have e23 : A2 23 (s * 5 + p) = A 23 (s * 5 + p) := hI.1 23 _ (by omega)
  refine go_blk (pc2 := 4) (L2 := [.ref 0, .int (nI s), .int (nI p), j]) (st2 := [.int 5, .int (nI p)]) (M2 := (A2, G2, PF)) (hs2 := []) (C := True) [(.iload_n 2, 0, 0), (.iconst 5, 0, 0)] [] (by decide +kernel) rfl trivial ?_
  refine go_cmp (cnd := .ge) (off := 53) 57 (by decide +kernel) (by decide) (fun (c1 : 5 ≤ (nI p)) => ?_) (fun (c1 : ¬ 5 ≤ (nI p)) => ?_)
  · skip
    replace c1 : 5 ≤ p := (nx_le (a := 5) (b := p) rfl rfl (by omega) (by omega)).mp c1
    exact go_retv (by decide +kernel) rfl (⟨rfl, A2, G2, rfl, by obtain rfl : p = 5 := (by omega); exact hI⟩)
  · skip
    replace c1 : ¬ 5 ≤ p := fun zz => c1 ((nx_le (a := 5) (b := p) rfl rfl (by omega) (by omega)).mpr zz)
    refine go_blk (pc2 := 9) (L2 := [.ref 0, .int (nI s), .int (nI p), j]) (st2 := [.int (nI p), .int (nI s)]) (M2 := (A2, G2, PF)) (hs2 := []) (C := True) [(.iload_n 1, 0, 0), (.iload_n 2, 0, 0)] [] (by decide +kernel) rfl trivial ?_
    refine go_call (Y2 := mX1_cellOf) (n2 := 27) (st := []) [] [.int (nI s), .int (nI p)] ck_5_159 cwX1_cellOf rfl (by decide +kernel) rfl (fun _ => rfl) (fun h => absurd rfl h) (Nat.le_of_ble_eq_true rfl) (Or.inl rfl) (fun _ _ _ h => h) (s_X1_cellOf l A2 G2 (nI s) (nI p)) (fun v M2 hp2 => ?_)
    obtain ⟨rfl, rfl⟩ := hp2
    show Go l ro0 mX5_climbWorld 27 (A2, G2, PF) 12 [.ref 0, .int (nI s), .int (nI p), j] [.int ((nI s) * 5 + (nI p))] 27 _
    refine go_blk (pc2 := 18) (L2 := [.ref 0, .int (nI s), .int (nI p), .int ((nI s) * 5 + (nI p))]) (st2 := [.int ((nI s) * 5 + (nI p)), .ref 22]) (M2 := (A2, G2, PF)) (hs2 := []) (C := True) [(.istore_n 3, 0, 0), (.aload_n 0, 0, 0), (.getfield 33, 5, 3), (.iload_n 3, 0, 0)] [] (by decide +kernel) rfl trivial ?_
    refine go_call (Y2 := mX1_isOpen) (n2 := 27) (st := []) [.ref 22] [.int ((nI s) * 5 + (nI p))] ck_5_163 cwX1_isOpen rfl (by decide +kernel) rfl (fun h => absurd h (by decide)) (fun _ => ⟨22, rfl, by decide, rfl⟩) (Nat.le_of_ble_eq_true rfl) (Or.inl rfl) (fun _ _ _ h => h) (s_X1_isOpen l A2 G2 (s * 5 + p) ((nI s) * 5 + (nI p)) (by first | rfl | (simp only [nI, Int32.ofNat_add, Int32.ofNat_mul]; done) | (simp only [nI, Int32.ofNat_add, Int32.ofNat_mul]; rfl)) (by omega)) (fun v M2 hp3 => ?_)
    obtain ⟨rfl, rfl⟩ := hp3
    rw [e23]
    rcases Classical.em (¬ A 23 (s * 5 + p) = 0) with hb4 | hb4
    · rw [bi_t hb4]
      show Go l ro0 mX5_climbWorld 27 (A2, G2, PF) 21 [.ref 0, .int (nI s), .int (nI p), .int ((nI s) * 5 + (nI p))] [.int 1] 27 _
      refine go_ifz (cnd := .eq) (off := 30) 51 (by decide +kernel) (by decide) (fun (h : (1 : Int32) = 0) => absurd h (by decide)) (fun _ => ?_)
      refine go_blk (pc2 := 37) (L2 := [.ref 0, .int (nI s), .int (nI p), .int ((nI s) * 5 + (nI p))]) (st2 := [.int ((nI s) * 5 + (nI p)), .ref 22, .ref 12, .ref 26]) (M2 := (A2, G2, PF)) (hs2 := []) (C := True) [(.aload_n 0, 0, 0), (.getfield 40, 5, 4), (.aload_n 0, 0, 0), (.getfield 26, 5, 2), (.aload_n 0, 0, 0), (.getfield 33, 5, 3), (.iload_n 3, 0, 0)] [] (by decide +kernel) rfl trivial ?_
      refine go_call (Y2 := mX1_neededIn) (n2 := 27) (st := [.ref 12, .ref 26]) [.ref 22] [.int ((nI s) * 5 + (nI p))] ck_5_166 cwX1_neededIn rfl (by decide +kernel) rfl (fun h => absurd h (by decide)) (fun _ => ⟨22, rfl, by decide, rfl⟩) (Nat.le_of_ble_eq_true rfl) (Or.inl rfl) (fun _ _ _ h => h) (s_X1_neededIn l A2 G2 (s * 5 + p) ((nI s) * 5 + (nI p)) (by first | rfl | (simp only [nI, Int32.ofNat_add, Int32.ofNat_mul]; done) | (simp only [nI, Int32.ofNat_add, Int32.ofNat_mul]; rfl)) (by omega)) (fun v M2 hp5 => ?_)
      obtain ⟨rfl, rfl⟩ := hp5
      show Go l ro0 mX5_climbWorld 27 (A2, G2, PF) 40 [.ref 0, .int (nI s), .int (nI p), .int ((nI s) * 5 + (nI p))] [.int (A2 24 (s * 5 + p)), .ref 12, .ref 26] 27 _
      refine go_blk (pc2 := 45) (L2 := [.ref 0, .int (nI s), .int (nI p), .int ((nI s) * 5 + (nI p))]) (st2 := [.int ((nI s) * 5 + (nI p)), .ref 22, .int (A2 24 (s * 5 + p)), .ref 12, .ref 26]) (M2 := (A2, G2, PF)) (hs2 := []) (C := True) [(.aload_n 0, 0, 0), (.getfield 33, 5, 3), (.iload_n 3, 0, 0)] [] (by decide +kernel) rfl trivial ?_
      refine go_call (Y2 := mX1_soughtIn) (n2 := 27) (st := [.int (A2 24 (s * 5 + p)), .ref 12, .ref 26]) [.ref 22] [.int ((nI s) * 5 + (nI p))] ck_5_170 cwX1_soughtIn rfl (by decide +kernel) rfl (fun h => absurd h (by decide)) (fun _ => ⟨22, rfl, by decide, rfl⟩) (Nat.le_of_ble_eq_true rfl) (Or.inl rfl) (fun _ _ _ h => h) (s_X1_soughtIn l A2 G2 (s * 5 + p) ((nI s) * 5 + (nI p)) (by first | rfl | (simp only [nI, Int32.ofNat_add, Int32.ofNat_mul]; done) | (simp only [nI, Int32.ofNat_add, Int32.ofNat_mul]; rfl)) (by omega)) (fun v M2 hp6 => ?_)
      obtain ⟨rfl, rfl⟩ := hp6
      show Go l ro0 mX5_climbWorld 27 (A2, G2, PF) 48 [.ref 0, .int (nI s), .int (nI p), .int ((nI s) * 5 + (nI p))] [.int (A2 25 (s * 5 + p)), .int (A2 24 (s * 5 + p)), .ref 12, .ref 26] 27 _
      refine go_call (Y2 := mX4_include) (n2 := 27) (st := []) [.ref 26] [.ref 12, .int (A2 24 (s * 5 + p)), .int (A2 25 (s * 5 + p))] ck_5_173 cwX4_include rfl (by decide +kernel) rfl (fun h => absurd h (by decide)) (fun _ => ⟨26, rfl, by decide, rfl⟩) (Nat.le_of_ble_eq_true rfl) (Or.inl rfl) (fun _ _ _ h => h) (s_X4_include l A2 G2 cnt (by rw [hI.row (by decide)]; exact hc) hc364 (A2 24 (s * 5 + p)) (A2 25 (s * 5 + p))) (fun v M2 hp7 => ?_)
      obtain ⟨rfl, A3, G3, rfl, hF⟩ := hp7
      show Go l ro0 mX5_climbWorld 27 (A3, G3, PF) 51 [.ref 0, .int (nI s), .int (nI p), .int ((nI s) * 5 + (nI p))] [] 27 _
      refine go_blk (pc2 := 54) (L2 := [.ref 0, .int (nI s), .int ((nI p) + 1), .int ((nI s) * 5 + (nI p))]) (st2 := []) (M2 := (A3, G3, PF)) (hs2 := []) (C := True) [(.iinc 2 1, 0, 0)] [] (by decide +kernel) rfl trivial ?_
      refine go_goto (off := -52) 2 (by decide +kernel) (by decide) ?_
      exact go_as (ih (by omega) A3 G3 (by rw [pks_t (by assumption)]; have := hI.trans hF; rw [hI.2.2.1, hI.2.2.2.1, hI.2.2.2.2, ccf_c (hI.row (by decide)) (hI.row (by decide)) (hI.row (by decide)) (hI.row (by decide)) (hI.row (by decide)), hI.1 26 0 (by decide), hI.1 26 1 (by decide), hI.1 26 2 (by decide), hI.row (o := 24) (by decide), hI.row (o := 25) (by decide)] at this; exact this) (.int ((nI s) * 5 + (nI p)))) rfl (by simp only [nI_1]) rfl
    · rw [bi_f hb4]
      show Go l ro0 mX5_climbWorld 27 (A2, G2, PF) 21 [.ref 0, .int (nI s), .int (nI p), .int ((nI s) * 5 + (nI p))] [.int 0] 27 _
      refine go_ifz (cnd := .eq) (off := 30) 51 (by decide +kernel) (by decide) (fun _ => ?_) (fun (h : ¬ (0 : Int32) = 0) => absurd h (by decide))
      refine go_blk (pc2 := 54) (L2 := [.ref 0, .int (nI s), .int ((nI p) + 1), .int ((nI s) * 5 + (nI p))]) (st2 := []) (M2 := (A2, G2, PF)) (hs2 := []) (C := True) [(.iinc 2 1, 0, 0)] [] (by decide +kernel) rfl trivial ?_
      refine go_goto (off := -52) 2 (by decide +kernel) (by decide) ?_
      exact go_as (ih (by omega) A2 G2 (by rw [pks_f (by assumption)]; exact hI) (.int ((nI s) * 5 + (nI p)))) rfl (by simp only [nI_1]) rfl
set_option maxRecDepth 100000 in
set_option maxHeartbeats 4000000 in
theorem s_X5_climbWorld (l : Launch) (A : Nat → Nat → Int32) (G : Nat → Nat → Int64) (cnt : Nat) (hc : A 12 9 = nI cnt) (hc364 : cnt ≤ 364) (s : Nat) (hs : s < 32) : Sem l mX5_climbWorld [.ref 0, .int (nI s)] 27 (A, G, PF) 27 (fun r M2 => r = none ∧ ∃ A2 G2, M2 = (A2, G2, PF) ∧ PkF A G A2 G2 (pks A (A 26 0) (A 26 1) (A 26 2) cnt (G 26 3, G 26 4, A 26 5) s 5)) := by
  refine sem_of_go (by decide) rfl (by decide) (by decide) rfl (Nat.le_of_ble_eq_true rfl) ?_
  show Go l ro0 mX5_climbWorld 27 (A, G, PF) 0 [.ref 0, .int (nI s), .null, .null] [] 27 (fun r M2 => r = none ∧ ∃ A2 G2, M2 = (A2, G2, PF) ∧ PkF A G A2 G2 (pks A (A 26 0) (A 26 1) (A 26 2) cnt (G 26 3, G 26 4, A 26 5) s 5))
  refine go_blk (pc2 := 2) (L2 := [.ref 0, .int (nI s), .int 0, .null]) (st2 := []) (M2 := (A, G, PF)) (hs2 := []) (C := True) [(.iconst 0, 0, 0), (.istore_n 2, 0, 0)] [] (by decide +kernel) rfl trivial ?_
  exact lp_X5_climbWorld l A G cnt hc hc364 s hs 0 (by omega) A G ⟨fun _ _ _ => rfl, fun _ _ _ => rfl, rfl, rfl, rfl⟩ _
def ClF (A : Nat → Nat → Int32) (G : Nat → Nat → Int64) (A2 : Nat → Nat → Int32) (G2 : Nat → Nat → Int64) (a b c : Int32) (t : Tr) : Prop := (∀ o k, o ≠ 26 → A2 o k = A o k) ∧ (∀ o k, o ≠ 26 → G2 o k = G o k) ∧ G2 26 3 = t.1 ∧ G2 26 4 = t.2.1 ∧ A2 26 5 = t.2.2 ∧ A2 26 0 = a ∧ A2 26 1 = b ∧ A2 26 2 = c
theorem ClF.row {A A2 : Nat → Nat → Int32} {G G2 : Nat → Nat → Int64} {a b c : Int32} {t : Tr} (h : ClF A G A2 G2 a b c t) {o : Nat} (ho : o ≠ 26) : A2 o = A o := by
  funext k
  exact h.1 o k ho
theorem pks_c {A A2 : Nat → Nat → Int32} (h : ∀ o, o ≠ 26 → A2 o = A o) (a b c : Int32) (cnt : Nat) (t : Tr) (s p : Nat) : pks A2 a b c cnt t s p = pks A a b c cnt t s p := by
  induction p with
  | zero => rfl
  | succ p ih =>
    have e : ∀ nd, ccf A2 a b c nd cnt = ccf A a b c nd cnt := fun nd => ccf_c (h 17 (by decide)) (h 18 (by decide)) (h 19 (by decide)) (h 20 (by decide)) (h 21 (by decide)) a b c nd cnt
    rcases Classical.em (¬ A 23 (s * 5 + p) = 0) with q | q
    · rw [pks_t q, pks_t (by rw [h 23 (by decide)]; exact q), ih, e, h 24 (by decide), h 25 (by decide)]
    · rw [pks_f q, pks_f (by rw [h 23 (by decide)]; exact q), ih]
theorem Wd_c {A A2 : Nat → Nat → Int32} (h : ∀ o, o ≠ 26 → A2 o = A o) (dm ncl s : Nat) : Wd A2 dm ncl s = Wd A dm ncl s := by
  unfold Wd SatC ClS LitH lit
  rw [h 23 (by decide), h 10 (by decide)]
theorem KI.c {A A2 : Nat → Nat → Int32} {dm ncl : Nat} (hK : KI A dm ncl) (h : ∀ o, o ≠ 26 → A2 o = A o) : KI A2 dm ncl := by
  obtain ⟨h1, h2, h3, h4, h5, h6⟩ := hK
  refine ⟨FOk_c (h 2 (by decide)) (h 7 (by decide)) (h 8 (by decide)) h1, ?_, by rw [h 1 (by decide)]; exact h3, h4, by rw [h 9 (by decide)]; exact h5, h6⟩
  simpa only [LitOk, lit, h 10 (by decide)] using h2
theorem ClF.step {A A2 A3 : Nat → Nat → Int32} {G G2 G3 : Nat → Nat → Int64} {a b c : Int32} {t t2 : Tr} (h : ClF A G A2 G2 a b c t) (h2 : PkF A2 G2 A3 G3 t2) : ClF A G A3 G3 a b c t2 :=
  ⟨fun o k q => (h2.1 o k (by omega)).trans (h.1 o k q), fun o k q => (h2.2.1 o k q).trans (h.2.1 o k q), h2.2.2.1, h2.2.2.2.1, h2.2.2.2.2, (h2.1 26 0 (by decide)).trans h.2.2.2.2.2.1, (h2.1 26 1 (by decide)).trans h.2.2.2.2.2.2.1, (h2.1 26 2 (by decide)).trans h.2.2.2.2.2.2.2⟩
set_option maxRecDepth 100000 in
set_option maxHeartbeats 4000000 in
theorem lp_X5_climb (l : Launch) (A : Nat → Nat → Int32) (G : Nat → Nat → Int64) (dm ncl : Nat) (hK : KI A dm ncl) (cnt : Nat) (hc : A 12 9 = nI cnt) (hc364 : cnt ≤ 364) (a b c : Int32) : ∀ s, s ≤ 32 → ∀ A2 G2, ClF A G A2 G2 a b c (pkw A a b c dm ncl cnt s) → Go l ro0 mX5_climb 27 (A2, G2, PF) 13 [.ref 0, .int a, .int b, .int c, .int (nI s)] [] 27 (fun r M2 => r = none ∧ ∃ A2 G2, M2 = (A2, G2, PF) ∧ ClF A G A2 G2 a b c (pkw A a b c dm ncl cnt 32)) := by
  refine down 32 (fun s hs ih A2 G2 hI => ?_)
  refine go_blk (pc2 := 17) (L2 := [.ref 0, .int a, .int b, .int c, .int (nI s)]) (st2 := [.int 32, .int (nI s)]) (M2 := (A2, G2, PF)) (hs2 := []) (C := True) [(.iload 4, 0, 0), (.bipush 32, 0, 0)] [] (by decide +kernel) rfl trivial ?_
  refine go_cmp (cnd := .ge) (off := 24) 41 (by decide +kernel) (by decide) (fun (c1 : 32 ≤ (nI s)) => ?_) (fun (c1 : ¬ 32 ≤ (nI s)) => ?_)
  · skip
    replace c1 : 32 ≤ s := (nx_le (a := 32) (b := s) rfl rfl (by omega) (by omega)).mp c1
    exact go_retv (by decide +kernel) rfl (⟨rfl, A2, G2, rfl, by obtain rfl : s = 32 := (by omega); exact hI⟩)
  · skip
    replace c1 : ¬ 32 ≤ s := fun zz => c1 ((nx_le (a := 32) (b := s) rfl rfl (by omega) (by omega)).mpr zz)
    refine go_blk (pc2 := 23) (L2 := [.ref 0, .int a, .int b, .int c, .int (nI s)]) (st2 := [.int (nI s), .ref 0]) (M2 := (A2, G2, PF)) (hs2 := []) (C := True) [(.aload_n 0, 0, 0), (.iload 4, 0, 0)] [] (by decide +kernel) rfl trivial ?_
    refine go_call (Y2 := mX5_isWorld) (n2 := 27) (st := []) [.ref 0] [.int (nI s)] ck_5_103 cwX5_isWorld rfl (by decide +kernel) rfl (fun h => absurd h (by decide)) (fun _ => ⟨0, rfl, by decide, rfl⟩) (Nat.le_of_ble_eq_true rfl) (Or.inl rfl) (fun _ _ _ h => h) (s_X5_isWorld l A2 G2 dm ncl (hK.c (fun o ho => hI.row ho)) s (by omega)) (fun v M2 hp2 => ?_)
    obtain ⟨rfl, rfl⟩ := hp2
    rw [Wd_c (A := A) (fun o ho => hI.row ho)]
    rcases Classical.em (Wd A dm ncl s) with hb3 | hb3
    · rw [bi_t hb3]
      show Go l ro0 mX5_climb 27 (A2, G2, PF) 26 [.ref 0, .int a, .int b, .int c, .int (nI s)] [.int 1] 27 _
      refine go_ifz (cnd := .eq) (off := 9) 35 (by decide +kernel) (by decide) (fun (h : (1 : Int32) = 0) => absurd h (by decide)) (fun _ => ?_)
      refine go_blk (pc2 := 32) (L2 := [.ref 0, .int a, .int b, .int c, .int (nI s)]) (st2 := [.int (nI s), .ref 0]) (M2 := (A2, G2, PF)) (hs2 := []) (C := True) [(.aload_n 0, 0, 0), (.iload 4, 0, 0)] [] (by decide +kernel) rfl trivial ?_
      refine go_call (Y2 := mX5_climbWorld) (n2 := 27) (st := []) [.ref 0] [.int (nI s)] ck_5_155 cwX5_climbWorld rfl (by decide +kernel) rfl (fun h => absurd h (by decide)) (fun _ => ⟨0, rfl, by decide, rfl⟩) (Nat.le_of_ble_eq_true rfl) (Or.inl rfl) (fun _ _ _ h => h) (s_X5_climbWorld l A2 G2 cnt (by rw [hI.row (by decide)]; exact hc) hc364 s (by omega)) (fun v M2 hp4 => ?_)
      obtain ⟨rfl, A3, G3, rfl, hF⟩ := hp4
      show Go l ro0 mX5_climb 27 (A3, G3, PF) 35 [.ref 0, .int a, .int b, .int c, .int (nI s)] [] 27 _
      refine go_blk (pc2 := 38) (L2 := [.ref 0, .int a, .int b, .int c, .int ((nI s) + 1)]) (st2 := []) (M2 := (A3, G3, PF)) (hs2 := []) (C := True) [(.iinc 4 1, 0, 0)] [] (by decide +kernel) rfl trivial ?_
      refine go_goto (off := -25) 13 (by decide +kernel) (by decide) ?_
      exact go_as (ih (by omega) A3 G3 (by rw [pkw_t (by assumption)]; have := hI.step hF; rw [hI.2.2.1, hI.2.2.2.1, hI.2.2.2.2.1, hI.2.2.2.2.2.1, hI.2.2.2.2.2.2.1, hI.2.2.2.2.2.2.2, pks_c (A := A) (fun o ho => hI.row ho)] at this; exact this)) rfl (by simp only [nI_1]) rfl
    · rw [bi_f hb3]
      show Go l ro0 mX5_climb 27 (A2, G2, PF) 26 [.ref 0, .int a, .int b, .int c, .int (nI s)] [.int 0] 27 _
      refine go_ifz (cnd := .eq) (off := 9) 35 (by decide +kernel) (by decide) (fun _ => ?_) (fun (h : ¬ (0 : Int32) = 0) => absurd h (by decide))
      refine go_blk (pc2 := 38) (L2 := [.ref 0, .int a, .int b, .int c, .int ((nI s) + 1)]) (st2 := []) (M2 := (A2, G2, PF)) (hs2 := []) (C := True) [(.iinc 4 1, 0, 0)] [] (by decide +kernel) rfl trivial ?_
      refine go_goto (off := -25) 13 (by decide +kernel) (by decide) ?_
      exact go_as (ih (by omega) A2 G2 (by rw [pkw_f (by assumption)]; exact hI)) rfl (by simp only [nI_1]) rfl
set_option maxRecDepth 100000 in
set_option maxHeartbeats 4000000 in
theorem s_X5_climb (l : Launch) (A : Nat → Nat → Int32) (G : Nat → Nat → Int64) (dm ncl : Nat) (hK : KI A dm ncl) (cnt : Nat) (hc : A 12 9 = nI cnt) (hc364 : cnt ≤ 364) (a b c : Int32) : Sem l mX5_climb [.ref 0, .int a, .int b, .int c] 27 (A, G, PF) 27 (fun r M2 => r = none ∧ ∃ A2 G2, M2 = (A2, G2, PF) ∧ ClF A G A2 G2 a b c (pkw A a b c dm ncl cnt 32)) := by
  refine sem_of_go (by decide) rfl (by decide) (by decide) rfl (Nat.le_of_ble_eq_true rfl) ?_
  show Go l ro0 mX5_climb 27 (A, G, PF) 0 [.ref 0, .int a, .int b, .int c, .null] [] 27 (fun r M2 => r = none ∧ ∃ A2 G2, M2 = (A2, G2, PF) ∧ ClF A G A2 G2 a b c (pkw A a b c dm ncl cnt 32))
  refine go_blk (pc2 := 7) (L2 := [.ref 0, .int a, .int b, .int c, .null]) (st2 := [.int c, .int b, .int a, .ref 26]) (M2 := (A, G, PF)) (hs2 := []) (C := True) [(.aload_n 0, 0, 0), (.getfield 40, 5, 4), (.iload_n 1, 0, 0), (.iload_n 2, 0, 0), (.iload_n 3, 0, 0)] [] (by decide +kernel) rfl trivial ?_
  refine go_call (Y2 := mX4_start) (n2 := 27) (st := []) [.ref 26] [.int a, .int b, .int c] ck_5_152 cwX4_start rfl (by decide +kernel) rfl (fun h => absurd h (by decide)) (fun _ => ⟨26, rfl, by decide, rfl⟩) (Nat.le_of_ble_eq_true rfl) (Or.inl rfl) (fun _ _ _ h => h) (s_X4_start l A G a b c) (fun v M2 hp1 => ?_)
  obtain ⟨rfl, rfl⟩ := hp1
  show Go l ro0 mX5_climb 27 ((u2 (u2 (u2 (u2 A 26 0 a) 26 1 b) 26 2 c) 26 5 0), (u2 (u2 G 26 3 0) 26 4 0), PF) 10 [.ref 0, .int a, .int b, .int c, .null] [] 27 _
  refine go_blk (pc2 := 13) (L2 := [.ref 0, .int a, .int b, .int c, .int 0]) (st2 := []) (M2 := ((u2 (u2 (u2 (u2 A 26 0 a) 26 1 b) 26 2 c) 26 5 0), (u2 (u2 G 26 3 0) 26 4 0), PF)) (hs2 := []) (C := True) [(.iconst 0, 0, 0), (.istore 4, 0, 0)] [] (by decide +kernel) rfl trivial ?_
  exact lp_X5_climb l A G dm ncl hK cnt hc hc364 a b c 0 (by omega) _ _ ⟨fun o k ho => by rw [u2_o ho, u2_o ho, u2_o ho, u2_o ho], fun o k ho => by rw [u2_o ho, u2_o ho], by simp [u2, pkw], by simp [u2, pkw], by simp [u2, pkw], by simp [u2], by simp [u2], by simp [u2]⟩
def NumOk (t : Tr) (h0 w0 : Nat) : Prop := (if 0 < t.1 then t.1 else -t.1) = lN h0 ∧ h0 < 2 ^ 40 ∧ w0 < 8192 ∧ t.2.1 = lN w0 ∧ (t.2.2 = 0 ∨ t.2.2 = 1)
def rdo (t : Tr) (h0 w0 : Nat) : Int64 := if 0 < lN (Nat.gcd h0 w0) then t.1 / lN (Nat.gcd h0 w0) else 0
def rdu (t : Tr) (h0 w0 : Nat) : Int64 := if 0 < lN (Nat.gcd h0 w0) then t.2.1 / lN (Nat.gcd h0 w0) else 0
def mov (t : Tr) : Int32 := if 0 < t.2.1 then (if t.2.2 = 0 then 1 else 2) else 0
def MoF (A : Nat → Nat → Int32) (G : Nat → Nat → Int64) (A2 A3 : Nat → Nat → Int32) (G3 : Nat → Nat → Int64) (cnt : Nat) : Prop := CacheI A2 cnt ∧ RfF A A2 ∧ Z5 A A2 ∧ (∀ o k, o ≠ 26 → A3 o k = A2 o k) ∧ ∀ o k, o ≠ 26 → ¬ (o = 0 ∧ (k = 6 ∨ k = 7)) → G3 o k = G o k
set_option maxRecDepth 100000 in
set_option maxHeartbeats 4000000 in
theorem s_X5_most (l : Launch) (A : Nat → Nat → Int32) (G : Nat → Nat → Int64) (dm ncl : Nat) (hK : KI A dm ncl) (hst : A 0 5 = 0 → ∃ cnt, CacheI A cnt) (a b c : Int32) (hnum : (f9 a ∧ f9 b ∧ f9 c) → ∀ A2 cnt, RfF A A2 → CacheI A2 cnt → ∃ h0 w0, NumOk (pkw A2 a b c dm ncl cnt 32) h0 w0) : Sem l mX5_most [.ref 0, .int a, .int b, .int c] 27 (A, G, PF) 27 (fun r M2 => (¬ (f9 a ∧ f9 b ∧ f9 c) ∧ r = some (.int (-1)) ∧ M2 = (A, G, PF)) ∨ ((f9 a ∧ f9 b ∧ f9 c) ∧ ∃ A2 A3 G3 cnt h0 w0, M2 = (A3, G3, PF) ∧ MoF A G A2 A3 G3 cnt ∧ NumOk (pkw A2 a b c dm ncl cnt 32) h0 w0 ∧ G3 0 6 = rdo (pkw A2 a b c dm ncl cnt 32) h0 w0 ∧ G3 0 7 = rdu (pkw A2 a b c dm ncl cnt 32) h0 w0 ∧ r = some (.int (mov (pkw A2 a b c dm ncl cnt 32))))) := by
  refine sem_of_go (by decide) rfl (by decide) (by decide) rfl (Nat.le_of_ble_eq_true rfl) ?_
  show Go l ro0 mX5_most 27 (A, G, PF) 0 [.ref 0, .int a, .int b, .int c] [] 27 (fun r M2 => (¬ (f9 a ∧ f9 b ∧ f9 c) ∧ r = some (.int (-1)) ∧ M2 = (A, G, PF)) ∨ ((f9 a ∧ f9 b ∧ f9 c) ∧ ∃ A2 A3 G3 cnt h0 w0, M2 = (A3, G3, PF) ∧ MoF A G A2 A3 G3 cnt ∧ NumOk (pkw A2 a b c dm ncl cnt 32) h0 w0 ∧ G3 0 6 = rdo (pkw A2 a b c dm ncl cnt 32) h0 w0 ∧ G3 0 7 = rdu (pkw A2 a b c dm ncl cnt 32) h0 w0 ∧ r = some (.int (mov (pkw A2 a b c dm ncl cnt 32)))))
  refine go_blk (pc2 := 3) (L2 := [.ref 0, .int a, .int b, .int c]) (st2 := [.int c, .int b, .int a]) (M2 := (A, G, PF)) (hs2 := []) (C := True) [(.iload_n 1, 0, 0), (.iload_n 2, 0, 0), (.iload_n 3, 0, 0)] [] (by decide +kernel) rfl trivial ?_
  refine go_call (Y2 := mX5_areFactors) (n2 := 27) (st := []) [] [.int a, .int b, .int c] ck_5_59 cwX5_areFactors rfl (by decide +kernel) rfl (fun _ => rfl) (fun h => absurd rfl h) (Nat.le_of_ble_eq_true rfl) (Or.inl rfl) (fun _ _ _ h => h) (s_X5_areFactors l A G a b c) (fun v M2 hp1 => ?_)
  obtain ⟨rfl, rfl⟩ := hp1
  rcases Classical.em (f9 a ∧ f9 b ∧ f9 c) with hb2 | hb2
  · rw [bi_t hb2]
    show Go l ro0 mX5_most 27 (A, G, PF) 6 [.ref 0, .int a, .int b, .int c] [.int 1] 27 _
    refine go_ifz (cnd := .ne) (off := 5) 11 (by decide +kernel) (by decide) (fun _ => ?_) (fun (h : (1 : Int32) = 0) => absurd h (by decide))
    refine go_blk (pc2 := 12) (L2 := [.ref 0, .int a, .int b, .int c]) (st2 := [.ref 0]) (M2 := (A, G, PF)) (hs2 := []) (C := True) [(.aload_n 0, 0, 0)] [] (by decide +kernel) rfl trivial ?_
    refine go_call (Y2 := mX5_refresh) (n2 := 27) (st := []) [.ref 0] [] ck_5_100 cwX5_refresh rfl (by decide +kernel) rfl (fun h => absurd h (by decide)) (fun _ => ⟨0, rfl, by decide, rfl⟩) (Nat.le_of_ble_eq_true rfl) (Or.inl rfl) (fun _ _ _ h => h) (s_X5_refresh l A G dm ncl hK hst) (fun v M2 hp3 => ?_)
    obtain ⟨rfl, A2, cnt, rfl, hCa, hRf, hs0⟩ := hp3
    have hK2 := hK.rf hRf
    show Go l ro0 mX5_most 27 (A2, G, PF) 15 [.ref 0, .int a, .int b, .int c] [] 27 _
    refine go_blk (pc2 := 19) (L2 := [.ref 0, .int a, .int b, .int c]) (st2 := [.int c, .int b, .int a, .ref 0]) (M2 := (A2, G, PF)) (hs2 := []) (C := True) [(.aload_n 0, 0, 0), (.iload_n 1, 0, 0), (.iload_n 2, 0, 0), (.iload_n 3, 0, 0)] [] (by decide +kernel) rfl trivial ?_
    refine go_call (Y2 := mX5_climb) (n2 := 27) (st := []) [.ref 0] [.int a, .int b, .int c] ck_5_113 cwX5_climb rfl (by decide +kernel) rfl (fun h => absurd h (by decide)) (fun _ => ⟨0, rfl, by decide, rfl⟩) (Nat.le_of_ble_eq_true rfl) (Or.inl rfl) (fun _ _ _ h => h) (s_X5_climb l A2 G dm ncl hK2 cnt hCa.2.1 hCa.1 a b c) (fun v M2 hp4 => ?_)
    obtain ⟨rfl, A3, G2, rfl, hF⟩ := hp4
    obtain ⟨h0, w0, hN⟩ := hnum (by assumption) A2 cnt hRf hCa
    obtain ⟨tt, ett⟩ : ∃ z, z = pkw A2 a b c dm ncl cnt 32 := ⟨_, rfl⟩
    rw [← ett] at hF hN
    show Go l ro0 mX5_most 27 (A3, G2, PF) 22 [.ref 0, .int a, .int b, .int c] [] 27 _
    refine go_blk (pc2 := 27) (L2 := [.ref 0, .int a, .int b, .int c]) (st2 := [.ref 26, .ref 0]) (M2 := (A3, G2, PF)) (hs2 := []) (C := True) [(.aload_n 0, 0, 0), (.aload_n 0, 0, 0), (.getfield 40, 5, 4)] [] (by decide +kernel) rfl trivial ?_
    refine go_call (Y2 := mX4_reducedOver) (n2 := 27) (st := [.ref 0]) [.ref 26] [] ck_5_116 cwX4_reducedOver rfl (by decide +kernel) rfl (fun h => absurd h (by decide)) (fun _ => ⟨26, rfl, by decide, rfl⟩) (Nat.le_of_ble_eq_true rfl) (Or.inl rfl) (fun _ _ _ h => h) (s_X4_reducedOver l A3 G2 h0 w0 (by rw [hF.2.2.1]; exact hN.1) hN.2.1 hN.2.2.1 (by rw [hF.2.2.2.1]; exact hN.2.2.2.1)) (fun v M2 hp5 => ?_)
    obtain ⟨rfl, rfl⟩ := hp5
    rw [show G2 26 3 = tt.1 from hF.2.2.1]
    show Go l ro0 mX5_most 27 (A3, G2, PF) 30 [.ref 0, .int a, .int b, .int c] [.long (rdo tt h0 w0), .ref 0] 27 _
    refine go_blk (pc2 := 38) (L2 := [.ref 0, .int a, .int b, .int c]) (st2 := [.ref 26, .ref 0]) (M2 := (A3, (u2 G2 0 6 (rdo tt h0 w0)), PF)) (hs2 := []) (C := True) [(.putfield 48, 5, 6), (.aload_n 0, 0, 0), (.aload_n 0, 0, 0), (.getfield 40, 5, 4)] [] (by decide +kernel) rfl trivial ?_
    refine go_call (Y2 := mX4_reducedUnder) (n2 := 27) (st := [.ref 0]) [.ref 26] [] ck_5_120 cwX4_reducedUnder rfl (by decide +kernel) rfl (fun h => absurd h (by decide)) (fun _ => ⟨26, rfl, by decide, rfl⟩) (Nat.le_of_ble_eq_true rfl) (Or.inl rfl) (fun _ _ _ h => h) (s_X4_reducedUnder l A3 (u2 G2 0 6 (rdo tt h0 w0)) h0 w0 (by rw [u2_o (by decide), hF.2.2.1]; exact hN.1) hN.2.1 hN.2.2.1 (by rw [u2_o (by decide), hF.2.2.2.1]; exact hN.2.2.2.1)) (fun v M2 hp6 => ?_)
    obtain ⟨rfl, rfl⟩ := hp6
    rw [show u2 G2 0 6 (rdo tt h0 w0) 26 4 = tt.2.1 from hF.2.2.2.1]
    show Go l ro0 mX5_most 27 (A3, (u2 G2 0 6 (rdo tt h0 w0)), PF) 41 [.ref 0, .int a, .int b, .int c] [.long (rdu tt h0 w0), .ref 0] 27 _
    refine go_blk (pc2 := 48) (L2 := [.ref 0, .int a, .int b, .int c]) (st2 := [.ref 26]) (M2 := (A3, (u2 (u2 G2 0 6 (rdo tt h0 w0)) 0 7 (rdu tt h0 w0)), PF)) (hs2 := []) (C := True) [(.putfield 52, 5, 7), (.aload_n 0, 0, 0), (.getfield 40, 5, 4)] [] (by decide +kernel) rfl trivial ?_
    refine go_call (Y2 := mX4_isFound) (n2 := 27) (st := []) [.ref 26] [] ck_5_123 cwX4_isFound rfl (by decide +kernel) rfl (fun h => absurd h (by decide)) (fun _ => ⟨26, rfl, by decide, rfl⟩) (Nat.le_of_ble_eq_true rfl) (Or.inl rfl) (fun _ _ _ h => h) (s_X4_isFound l A3 (u2 (u2 G2 0 6 (rdo tt h0 w0)) 0 7 (rdu tt h0 w0))) (fun v M2 hp7 => ?_)
    obtain ⟨rfl, rfl⟩ := hp7
    rw [show (u2 (u2 G2 0 6 (rdo tt h0 w0)) 0 7 (rdu tt h0 w0)) 26 4 = tt.2.1 from hF.2.2.2.1]
    rcases Classical.em (0 < tt.2.1) with hb8 | hb8
    · rw [bi_t hb8]
      show Go l ro0 mX5_most 27 (A3, (u2 (u2 G2 0 6 (rdo tt h0 w0)) 0 7 (rdu tt h0 w0)), PF) 51 [.ref 0, .int a, .int b, .int c] [.int 1] 27 _
      refine go_ifz (cnd := .ne) (off := 5) 56 (by decide +kernel) (by decide) (fun _ => ?_) (fun (h : (1 : Int32) = 0) => absurd h (by decide))
      refine go_blk (pc2 := 60) (L2 := [.ref 0, .int a, .int b, .int c]) (st2 := [.ref 26]) (M2 := (A3, (u2 (u2 G2 0 6 (rdo tt h0 w0)) 0 7 (rdu tt h0 w0)), PF)) (hs2 := []) (C := True) [(.aload_n 0, 0, 0), (.getfield 40, 5, 4)] [] (by decide +kernel) rfl trivial ?_
      refine go_call (Y2 := mX4_isReached) (n2 := 27) (st := []) [.ref 26] [] ck_5_126 cwX4_isReached rfl (by decide +kernel) rfl (fun h => absurd h (by decide)) (fun _ => ⟨26, rfl, by decide, rfl⟩) (Nat.le_of_ble_eq_true rfl) (Or.inl rfl) (fun _ _ _ h => h) (s_X4_isReached l A3 (u2 (u2 G2 0 6 (rdo tt h0 w0)) 0 7 (rdu tt h0 w0)) (by rw [hF.2.2.2.2.1]; exact hN.2.2.2.2)) (fun v M2 hp9 => ?_)
      obtain ⟨rfl, rfl⟩ := hp9
      rw [show A3 26 5 = tt.2.2 from hF.2.2.2.2.1]
      show Go l ro0 mX5_most 27 (A3, (u2 (u2 G2 0 6 (rdo tt h0 w0)) 0 7 (rdu tt h0 w0)), PF) 63 [.ref 0, .int a, .int b, .int c] [.int tt.2.2] 27 _
      refine go_ifz (cnd := .eq) (off := 7) 70 (by decide +kernel) (by decide) (fun (c10 : tt.2.2 = 0) => ?_) (fun (c10 : ¬ tt.2.2 = 0) => ?_)
      · skip
        refine go_blk (pc2 := 71) (L2 := [.ref 0, .int a, .int b, .int c]) (st2 := [.int 1]) (M2 := (A3, (u2 (u2 G2 0 6 (rdo tt h0 w0)) 0 7 (rdu tt h0 w0)), PF)) (hs2 := []) (C := True) [(.iconst 1, 0, 0)] [] (by decide +kernel) rfl trivial ?_
        exact go_reti (by decide +kernel) rfl (Or.inr ⟨by assumption, A2, A3, _, cnt, h0, w0, rfl, ⟨hCa, hRf, hs0, hF.1, fun o k h1 h2 => by rw [u2_ne (by omega), u2_ne (by omega)]; exact hF.2.1 o k h1⟩, by rw [← ett]; exact hN, by rw [← ett]; simp [u2], by rw [← ett]; simp [u2], by rw [← ett]; unfold mov; first | rw [if_neg (by assumption)] | rw [if_pos (by assumption), if_pos (by assumption)] | rw [if_pos (by assumption), if_neg (by assumption)]⟩)
      · skip
        refine go_blk (pc2 := 67) (L2 := [.ref 0, .int a, .int b, .int c]) (st2 := [.int 2]) (M2 := (A3, (u2 (u2 G2 0 6 (rdo tt h0 w0)) 0 7 (rdu tt h0 w0)), PF)) (hs2 := []) (C := True) [(.iconst 2, 0, 0)] [] (by decide +kernel) rfl trivial ?_
        refine go_goto (off := 4) 71 (by decide +kernel) (by decide) ?_
        exact go_reti (by decide +kernel) rfl (Or.inr ⟨by assumption, A2, A3, _, cnt, h0, w0, rfl, ⟨hCa, hRf, hs0, hF.1, fun o k h1 h2 => by rw [u2_ne (by omega), u2_ne (by omega)]; exact hF.2.1 o k h1⟩, by rw [← ett]; exact hN, by rw [← ett]; simp [u2], by rw [← ett]; simp [u2], by rw [← ett]; unfold mov; first | rw [if_neg (by assumption)] | rw [if_pos (by assumption), if_pos (by assumption)] | rw [if_pos (by assumption), if_neg (by assumption)]⟩)
    · rw [bi_f hb8]
      show Go l ro0 mX5_most 27 (A3, (u2 (u2 G2 0 6 (rdo tt h0 w0)) 0 7 (rdu tt h0 w0)), PF) 51 [.ref 0, .int a, .int b, .int c] [.int 0] 27 _
      refine go_ifz (cnd := .ne) (off := 5) 56 (by decide +kernel) (by decide) (fun (h : ¬ (0 : Int32) = 0) => absurd h (by decide)) (fun _ => ?_)
      refine go_blk (pc2 := 55) (L2 := [.ref 0, .int a, .int b, .int c]) (st2 := [.int 0]) (M2 := (A3, (u2 (u2 G2 0 6 (rdo tt h0 w0)) 0 7 (rdu tt h0 w0)), PF)) (hs2 := []) (C := True) [(.iconst 0, 0, 0)] [] (by decide +kernel) rfl trivial ?_
      exact go_reti (by decide +kernel) rfl (Or.inr ⟨by assumption, A2, A3, _, cnt, h0, w0, rfl, ⟨hCa, hRf, hs0, hF.1, fun o k h1 h2 => by rw [u2_ne (by omega), u2_ne (by omega)]; exact hF.2.1 o k h1⟩, by rw [← ett]; exact hN, by rw [← ett]; simp [u2], by rw [← ett]; simp [u2], by rw [← ett]; unfold mov; first | rw [if_neg (by assumption)] | rw [if_pos (by assumption), if_pos (by assumption)] | rw [if_pos (by assumption), if_neg (by assumption)]⟩)
  · rw [bi_f hb2]
    show Go l ro0 mX5_most 27 (A, G, PF) 6 [.ref 0, .int a, .int b, .int c] [.int 0] 27 _
    refine go_ifz (cnd := .ne) (off := 5) 11 (by decide +kernel) (by decide) (fun (h : ¬ (0 : Int32) = 0) => absurd h (by decide)) (fun _ => ?_)
    refine go_blk (pc2 := 10) (L2 := [.ref 0, .int a, .int b, .int c]) (st2 := [.int (-1)]) (M2 := (A, G, PF)) (hs2 := []) (C := True) [(.iconst (-1), 0, 0)] [] (by decide +kernel) rfl trivial ?_
    exact go_reti (by decide +kernel) rfl (Or.inl ⟨by assumption, rfl, rfl⟩)
set_option maxRecDepth 100000 in
set_option maxHeartbeats 4000000 in
theorem s_X5_bounded (l : Launch) (A : Nat → Nat → Int32) (G : Nat → Nat → Int64) (dm ncl : Nat) (hK : KI A dm ncl) (hst : A 0 5 = 0 → ∃ cnt, CacheI A cnt) (a b c d : Int32) : Sem l mX5_bounded [.ref 0, .int a, .int b, .int c, .int d] 27 (A, G, PF) 27 (fun r M2 => (¬ ((f9 a ∧ f9 b ∧ f9 c) ∧ f99 d) ∧ r = some (.int 0) ∧ M2 = (A, G, PF)) ∨ (((f9 a ∧ f9 b ∧ f9 c) ∧ f99 d) ∧ ∃ A2 A3 G3 cnt, M2 = (A3, G3, PF) ∧ MoF A G A2 A3 G3 cnt ∧ G3 0 6 = G 0 6 ∧ G3 0 7 = G 0 7 ∧ r = some (.int (bi ((pkw A2 a b c dm ncl cnt 32).1 ≤ d.toInt64 * (pkw A2 a b c dm ncl cnt 32).2.1))))) := by
  refine sem_of_go (by decide) rfl (by decide) (by decide) rfl (Nat.le_of_ble_eq_true rfl) ?_
  show Go l ro0 mX5_bounded 27 (A, G, PF) 0 [.ref 0, .int a, .int b, .int c, .int d] [] 27 (fun r M2 => (¬ ((f9 a ∧ f9 b ∧ f9 c) ∧ f99 d) ∧ r = some (.int 0) ∧ M2 = (A, G, PF)) ∨ (((f9 a ∧ f9 b ∧ f9 c) ∧ f99 d) ∧ ∃ A2 A3 G3 cnt, M2 = (A3, G3, PF) ∧ MoF A G A2 A3 G3 cnt ∧ G3 0 6 = G 0 6 ∧ G3 0 7 = G 0 7 ∧ r = some (.int (bi ((pkw A2 a b c dm ncl cnt 32).1 ≤ d.toInt64 * (pkw A2 a b c dm ncl cnt 32).2.1)))))
  refine go_blk (pc2 := 3) (L2 := [.ref 0, .int a, .int b, .int c, .int d]) (st2 := [.int c, .int b, .int a]) (M2 := (A, G, PF)) (hs2 := []) (C := True) [(.iload_n 1, 0, 0), (.iload_n 2, 0, 0), (.iload_n 3, 0, 0)] [] (by decide +kernel) rfl trivial ?_
  refine go_call (Y2 := mX5_areFactors) (n2 := 27) (st := []) [] [.int a, .int b, .int c] ck_5_59 cwX5_areFactors rfl (by decide +kernel) rfl (fun _ => rfl) (fun h => absurd rfl h) (Nat.le_of_ble_eq_true rfl) (Or.inl rfl) (fun _ _ _ h => h) (s_X5_areFactors l A G a b c) (fun v M2 hp1 => ?_)
  obtain ⟨rfl, rfl⟩ := hp1
  rcases Classical.em (f9 a ∧ f9 b ∧ f9 c) with hb2 | hb2
  · rw [bi_t hb2]
    show Go l ro0 mX5_bounded 27 (A, G, PF) 6 [.ref 0, .int a, .int b, .int c, .int d] [.int 1] 27 _
    refine go_ifz (cnd := .eq) (off := 11) 17 (by decide +kernel) (by decide) (fun (h : (1 : Int32) = 0) => absurd h (by decide)) (fun _ => ?_)
    refine go_blk (pc2 := 11) (L2 := [.ref 0, .int a, .int b, .int c, .int d]) (st2 := [.int d]) (M2 := (A, G, PF)) (hs2 := []) (C := True) [(.iload 4, 0, 0)] [] (by decide +kernel) rfl trivial ?_
    refine go_call (Y2 := mX5_isLimit) (n2 := 27) (st := []) [] [.int d] ck_5_63 cwX5_isLimit rfl (by decide +kernel) rfl (fun _ => rfl) (fun h => absurd rfl h) (Nat.le_of_ble_eq_true rfl) (Or.inl rfl) (fun _ _ _ h => h) (s_X5_isLimit l A G d) (fun v M2 hp3 => ?_)
    obtain ⟨rfl, rfl⟩ := hp3
    rcases Classical.em (f99 d) with hb4 | hb4
    · rw [bi_t hb4]
      show Go l ro0 mX5_bounded 27 (A, G, PF) 14 [.ref 0, .int a, .int b, .int c, .int d] [.int 1] 27 _
      refine go_ifz (cnd := .ne) (off := 5) 19 (by decide +kernel) (by decide) (fun _ => ?_) (fun (h : (1 : Int32) = 0) => absurd h (by decide))
      refine go_blk (pc2 := 20) (L2 := [.ref 0, .int a, .int b, .int c, .int d]) (st2 := [.ref 0]) (M2 := (A, G, PF)) (hs2 := []) (C := True) [(.aload_n 0, 0, 0)] [] (by decide +kernel) rfl trivial ?_
      refine go_call (Y2 := mX5_refresh) (n2 := 27) (st := []) [.ref 0] [] ck_5_100 cwX5_refresh rfl (by decide +kernel) rfl (fun h => absurd h (by decide)) (fun _ => ⟨0, rfl, by decide, rfl⟩) (Nat.le_of_ble_eq_true rfl) (Or.inl rfl) (fun _ _ _ h => h) (s_X5_refresh l A G dm ncl hK hst) (fun v M2 hp5 => ?_)
      obtain ⟨rfl, A2, cnt, rfl, hCa, hRf, hs0⟩ := hp5
      have hK2 := hK.rf hRf
      show Go l ro0 mX5_bounded 27 (A2, G, PF) 23 [.ref 0, .int a, .int b, .int c, .int d] [] 27 _
      refine go_blk (pc2 := 27) (L2 := [.ref 0, .int a, .int b, .int c, .int d]) (st2 := [.int c, .int b, .int a, .ref 0]) (M2 := (A2, G, PF)) (hs2 := []) (C := True) [(.aload_n 0, 0, 0), (.iload_n 1, 0, 0), (.iload_n 2, 0, 0), (.iload_n 3, 0, 0)] [] (by decide +kernel) rfl trivial ?_
      refine go_call (Y2 := mX5_climb) (n2 := 27) (st := []) [.ref 0] [.int a, .int b, .int c] ck_5_113 cwX5_climb rfl (by decide +kernel) rfl (fun h => absurd h (by decide)) (fun _ => ⟨0, rfl, by decide, rfl⟩) (Nat.le_of_ble_eq_true rfl) (Or.inl rfl) (fun _ _ _ h => h) (s_X5_climb l A2 G dm ncl hK2 cnt hCa.2.1 hCa.1 a b c) (fun v M2 hp6 => ?_)
      obtain ⟨rfl, A3, G2, rfl, hF⟩ := hp6
      show Go l ro0 mX5_bounded 27 (A3, G2, PF) 30 [.ref 0, .int a, .int b, .int c, .int d] [] 27 _
      refine go_blk (pc2 := 36) (L2 := [.ref 0, .int a, .int b, .int c, .int d]) (st2 := [.int d, .ref 26]) (M2 := (A3, G2, PF)) (hs2 := []) (C := True) [(.aload_n 0, 0, 0), (.getfield 40, 5, 4), (.iload 4, 0, 0)] [] (by decide +kernel) rfl trivial ?_
      refine go_call (Y2 := mX4_isAtMost) (n2 := 27) (st := []) [.ref 26] [.int d] ck_5_129 cwX4_isAtMost rfl (by decide +kernel) rfl (fun h => absurd h (by decide)) (fun _ => ⟨26, rfl, by decide, rfl⟩) (Nat.le_of_ble_eq_true rfl) (Or.inl rfl) (fun _ _ _ h => h) (s_X4_isAtMost l A3 G2 d) (fun v M2 hp7 => ?_)
      obtain ⟨rfl, rfl⟩ := hp7
      rw [hF.2.2.1, hF.2.2.2.1]
      show Go l ro0 mX5_bounded 27 (A3, G2, PF) 39 [.ref 0, .int a, .int b, .int c, .int d] [.int (bi ((pkw A2 a b c dm ncl cnt 32).1 ≤ d.toInt64 * (pkw A2 a b c dm ncl cnt 32).2.1))] 27 _
      exact go_retz (by decide +kernel) rfl (bi_01 _) (Or.inr ⟨⟨by assumption, by assumption⟩, A2, A3, G2, cnt, rfl, ⟨hCa, hRf, hs0, hF.1, fun o k h1 h2 => hF.2.1 o k h1⟩, hF.2.1 0 6 (by decide), hF.2.1 0 7 (by decide), rfl⟩)
    · rw [bi_f hb4]
      show Go l ro0 mX5_bounded 27 (A, G, PF) 14 [.ref 0, .int a, .int b, .int c, .int d] [.int 0] 27 _
      refine go_ifz (cnd := .ne) (off := 5) 19 (by decide +kernel) (by decide) (fun (h : ¬ (0 : Int32) = 0) => absurd h (by decide)) (fun _ => ?_)
      refine go_blk (pc2 := 18) (L2 := [.ref 0, .int a, .int b, .int c, .int d]) (st2 := [.int 0]) (M2 := (A, G, PF)) (hs2 := []) (C := True) [(.iconst 0, 0, 0)] [] (by decide +kernel) rfl trivial ?_
      exact go_retz (by decide +kernel) rfl (Or.inl rfl) (Or.inl ⟨by rintro ⟨z1, z2⟩; contradiction, rfl, rfl⟩)
  · rw [bi_f hb2]
    show Go l ro0 mX5_bounded 27 (A, G, PF) 6 [.ref 0, .int a, .int b, .int c, .int d] [.int 0] 27 _
    refine go_ifz (cnd := .eq) (off := 11) 17 (by decide +kernel) (by decide) (fun _ => ?_) (fun (h : ¬ (0 : Int32) = 0) => absurd h (by decide))
    refine go_blk (pc2 := 18) (L2 := [.ref 0, .int a, .int b, .int c, .int d]) (st2 := [.int 0]) (M2 := (A, G, PF)) (hs2 := []) (C := True) [(.iconst 0, 0, 0)] [] (by decide +kernel) rfl trivial ?_
    exact go_retz (by decide +kernel) rfl (Or.inl rfl) (Or.inl ⟨by rintro ⟨z1, z2⟩; contradiction, rfl, rfl⟩)
