/-! ===== a definition to both keeps what holds ===== -/
theorem dm_or : ∀ dm, dm < 32 → ∀ kk, kk < 5 → nI dm ||| (1 <<< (nI kk &&& 31)) = nI (dm ||| 2 ^ kk) ∧ dm ||| 2 ^ kk < 32 := by decide +kernel
theorem def_step {A B : Nat → Nat → Int32} {G : Nat → Nat → Int64} {dm ncl lv kk : Nat} (h : Inv A G dm ncl lv) (hkk : kk < 5) (kd : Int32)
    (hrow : ∀ o, o = 9 ∨ o = 10 ∨ o = 11 ∨ o = 30 ∨ o = 31 ∨ o = 37 → B o = A o) (hpl : ∀ p, RC B p = RC A p) (hk4 : B 27 4 = A 27 4) (hk5 : B 27 5 = A 27 5)
    (hne : ∀ k, k ≠ kk → B 2 k = A 2 k ∧ B 28 k = A 28 k ∧ row3 B k = row3 A k ∧ row29 B k = row29 A k ∧ B 7 k = A 7 k ∧ B 8 k = A 8 k)
    (h2 : B 2 kk = kd) (h28 : B 28 kk = kd) (hkd : ¬ kd = 0) (h17 : B 1 7 = A 1 7 ||| (1 <<< (nI kk &&& 31)))
    (hlin : (kd = 1 ∨ kd = 2) → row3 B kk = row29 B kk ∧ Nrm (row3 B kk) ∧ f99 (B 6 kk)) (hnl : ¬ (kd = 1 ∨ kd = 2) → row3 B kk = (0, 0, 0, 0))
    (hfac : kd = 3 → (∃ i j, i < 3 ∧ j < 3 ∧ B 7 kk = nI i ∧ B 8 kk = nI j) ∧ B 29 (4 * kk) = B 7 kk ∧ B 29 (4 * kk + 1) = B 8 kk)
    (hstale : ¬ B 0 5 = 0) (hknown : B 27 6 = 0) : Inv B G (dm ||| 2 ^ kk) ncl lv := by
  obtain ⟨⟨⟨⟨f1, f2, f3, f4, f5, f6⟩, c2, c3, c4, c5, c6, c7, c8⟩, b2, ⟨b3, b4, b5⟩, b6⟩, -, -, hg⟩ := h
  obtain ⟨d1, d2⟩ := dm_or dm f4 kk hkk
  have cl : ∀ i : Nat, i < 3 → (nI i).toNatClampNeg = i := by decide +kernel
  refine ⟨⟨⟨⟨fun k hk q3 => ?_, ?_, by rw [h17, f3, d1], d2, by rw [hrow 9 (by omega)]; exact f5, f6⟩, fun k hk => ?_, fun k hk q3 => ?_, ⟨fun k hk hl => ?_, fun k hk hl => ?_⟩, fun p q1 q2 => by rw [hpl]; exact c5 p q1 q2, fun k hk => ?_, by rw [hk4]; exact c7, by rw [hrow 30 (by omega), hrow 10 (by omega)]; exact c8⟩, by rw [hrow 37 (by omega)]; exact b2, ⟨by rw [hrow 9 (by omega)]; exact b3, by rw [hk5]; exact b4, b5⟩, by rw [hrow 11 (by omega), hrow 31 (by omega)]; exact b6⟩, fun z => absurd z hstale, fun z => absurd hknown z, hg⟩
  · by_cases e : k = kk
    · subst e
      obtain ⟨⟨i, j, z1, z2, z3, z4⟩, -, -⟩ := hfac (h2.symm.trans q3)
      unfold fi fj
      rw [z3, z4, cl i z1, cl j z2]
      exact ⟨⟨z1, rfl⟩, z2, rfl⟩
    · obtain ⟨a1, -, -, -, a5, a6⟩ := hne k e
      unfold fi fj
      rw [a5, a6]
      exact f1 k hk (a1.symm.trans q3)
  · simpa only [LitOk, lit, hrow 10 (by omega)] using f2
  · by_cases e : k = kk
    · subst e; rw [h2, h28]
    · obtain ⟨a1, a2, -⟩ := hne k e
      rw [a1, a2]
      exact c2 k hk
  · by_cases e : k = kk
    · subst e
      exact (hfac (h2.symm.trans q3)).2
    · obtain ⟨a1, a2, a3, a4, a5, a6⟩ := hne k e
      have x1 : B 29 (4 * k) = A 29 (4 * k) := congrArg Prod.fst a4
      have x2 : B 29 (4 * k + 1) = A 29 (4 * k + 1) := congrArg (fun q => q.2.1) a4
      rw [x1, x2, a5, a6]
      exact c3 k hk (a1.symm.trans q3)
  · by_cases e : k = kk
    · subst e
      unfold Lin at hl
      rw [h28] at hl
      exact hlin hl
    · obtain ⟨a1, a2, a3, a4, a5, a6⟩ := hne k e
      have x1 : B 6 k = A 6 k := congrArg (fun q => q.2.2.2) a3
      unfold Lin at hl
      rw [a2] at hl
      rw [a3, a4, x1]
      exact c4.1 k hk hl
  · by_cases e : k = kk
    · subst e
      unfold Lin at hl
      rw [h28] at hl
      exact hnl hl
    · obtain ⟨a1, a2, a3, a4, a5, a6⟩ := hne k e
      unfold Lin at hl
      rw [a2] at hl
      rw [a3]
      exact c4.2 k hk hl
  · rw [Nat.testBit_or, Bool.or_eq_true, Nat.testBit_two_pow, decide_eq_true_eq]
    by_cases e : k = kk
    · subst e
      rw [h2]
      exact ⟨fun _ => hkd, fun _ => Or.inr rfl⟩
    · rw [(hne k e).1, ← c6 k hk]
      exact ⟨fun z => z.elim id (fun y => absurd y.symm e), Or.inl⟩
theorem kd_ne (e : Int32) : ¬ (if e = 0 then (1 : Int32) else 2) = 0 ∧ ((if e = 0 then (1 : Int32) else 2) = 1 ∨ (if e = 0 then (1 : Int32) else 2) = 2) := by
  split
  · exact ⟨by decide, Or.inl rfl⟩
  · exact ⟨by decide, Or.inr rfl⟩
theorem lin_step {A : Nat → Nat → Int32} {G : Nat → Nat → Int64} {dm ncl lv kk : Nat} (h : Inv A G dm ncl lv) (hkk : kk < 5) {k a b c d : Int32} (hok : LinOk k a b c d) (e : Int32) : Inv (mlin (u2 (dlin A kk a b c d e) 0 5 1) kk a b c d e) G (dm ||| 2 ^ kk) ncl lv := by
  obtain ⟨k1, k2⟩ := kd_ne e
  refine def_step h hkk (if e = 0 then 1 else 2) ?_ ?_ ?_ ?_ ?_ ?_ ?_ k1 ?_ ?_ ?_ ?_ ?_ ?_
  · intro o ho
    funext j
    unfold mlin mset dlin
    repeat rw [u2_ne (by omega)]
  · intro p
    unfold RC mlin mset dlin
    repeat rw [u2_ne (by omega)]
  · unfold mlin mset dlin
    repeat rw [u2_ne (by omega)]
  · unfold mlin mset dlin
    repeat rw [u2_ne (by omega)]
  · intro j hj
    unfold row3 row29 mlin mset dlin
    refine ⟨?_, ?_, ?_, ?_, ?_, ?_⟩ <;> (repeat rw [u2_ne (by omega)])
  · unfold mlin mset dlin
    repeat rw [u2_ne (by omega)]
    rw [u2_s]
  · unfold mlin mset dlin
    repeat rw [u2_ne (by omega)]
    rw [u2_s]
  · unfold mlin mset dlin
    repeat rw [u2_ne (by omega)]
    rw [u2_s]
  · intro _
    have e3 : row3 (mlin (u2 (dlin A kk a b c d e) 0 5 1) kk a b c d e) kk = (a, b, c, d) := by
      unfold row3 mlin mset dlin
      simp [u2]
    have e4 : row29 (mlin (u2 (dlin A kk a b c d e) 0 5 1) kk a b c d e) kk = (a, b, c, d) := by
      unfold row29 mlin mset dlin
      simp [u2]
    rw [e3, e4]
    refine ⟨rfl, hok.2.1, ?_⟩
    have e6 : (mlin (u2 (dlin A kk a b c d e) 0 5 1) kk a b c d e) 6 kk = d := congrArg (fun q => q.2.2.2) e3
    rw [e6]
    exact hok.2.2
  · exact fun z => absurd k2 z
  · intro z
    split at z <;> cases z
  · unfold mlin mset dlin
    simp [u2]
  · unfold mlin mset dlin
    simp [u2]
theorem fac_step {A : Nat → Nat → Int32} {G : Nat → Nat → Int64} {dm ncl lv kk : Nat} (h : Inv A G dm ncl lv) (hkk : kk < 5) {k i j : Int32} (hok : FacOk k i j) : Inv (mfac (u2 (dfac A kk i j) 0 5 1) kk i j) G (dm ||| 2 ^ kk) ncl lv := by
  refine def_step h hkk 3 ?_ ?_ ?_ ?_ ?_ ?_ ?_ (by decide) ?_ ?_ ?_ ?_ ?_ ?_
  · intro o ho
    funext j2
    unfold mfac mset dfac
    repeat rw [u2_ne (by omega)]
  · intro p
    unfold RC mfac mset dfac
    repeat rw [u2_ne (by omega)]
  · unfold mfac mset dfac
    repeat rw [u2_ne (by omega)]
  · unfold mfac mset dfac
    repeat rw [u2_ne (by omega)]
  · intro j2 hj
    unfold row3 row29 mfac mset dfac
    refine ⟨?_, ?_, ?_, ?_, ?_, ?_⟩ <;> (repeat rw [u2_ne (by omega)])
  · unfold mfac mset dfac
    repeat rw [u2_ne (by omega)]
    rw [u2_s]
  · unfold mfac mset dfac
    repeat rw [u2_ne (by omega)]
    rw [u2_s]
  · unfold mfac mset dfac
    repeat rw [u2_ne (by omega)]
    rw [u2_s]
  · exact fun z => absurd z (by decide)
  · intro _
    unfold row3 mfac mset dfac
    simp [u2]
  · intro _
    obtain ⟨i1, z1, z2⟩ := ix3 hok.2.1
    obtain ⟨j1, y1, y2⟩ := ix3 hok.2.2
    have e7 : (mfac (u2 (dfac A kk i j) 0 5 1) kk i j) 7 kk = i := by unfold mfac mset dfac; simp [u2]
    have e8 : (mfac (u2 (dfac A kk i j) 0 5 1) kk i j) 8 kk = j := by unfold mfac mset dfac; simp [u2]
    rw [e7, e8]
    refine ⟨⟨i1, j1, z1, y1, z2, y2⟩, ?_, ?_⟩
    · unfold mfac mset dfac; simp [u2]
    · unfold mfac mset dfac; simp [u2]
  · unfold mfac mset dfac
    simp [u2]
  · unfold mfac mset dfac
    simp [u2]
