/-! ===== clauses and levels to both keep what holds ===== -/
theorem stk_step {A B : Nat → Nat → Int32} {G : Nat → Nat → Int64} {dm ncl lv ncl2 lv2 : Nat} (h : Inv A G dm ncl lv) (hrow : ∀ o, o ≠ 9 → o ≠ 10 → o ≠ 11 → o ≠ 27 → o ≠ 30 → o ≠ 31 → B o = A o) (h27 : ∀ k, k ≠ 4 → k ≠ 5 → B 27 k = A 27 k) (n1 : B 9 2 = nI ncl2) (n2 : B 27 4 = nI ncl2) (n3 : ncl2 ≤ 8) (l1 : B 9 3 = nI lv2) (l2 : B 27 5 = nI lv2) (l3 : lv2 ≤ 4) (hl : LitOk B) (h30 : ∀ i, i < 24 → B 30 i = B 10 i) (hm : ∀ i, i < lv2 → ∃ m, m ≤ 8 ∧ B 11 i = nI m ∧ B 31 i = nI m) : Inv B G dm ncl2 lv2 := by
  obtain ⟨⟨⟨⟨f1, f2, f3, f4, f5, f6⟩, c2, c3, c4, c5, c6, c7, c8⟩, b2, ⟨b3, b4, b5⟩, b6⟩, hs, hk, hg⟩ := h
  have r : ∀ o, o < 9 ∨ o = 28 ∨ o = 29 ∨ o = 37 ∨ (12 ≤ o ∧ o ≤ 26) ∨ (32 ≤ o) → B o = A o := fun o q => hrow o (by omega) (by omega) (by omega) (by omega) (by omega) (by omega)
  have eL : ∀ k, Lin B k = Lin A k := fun k => by unfold Lin; rw [r 28 (by omega)]
  have e3 : ∀ k, row3 B k = row3 A k := fun k => by unfold row3; rw [r 3 (by omega), r 4 (by omega), r 5 (by omega), r 6 (by omega)]
  have e29 : ∀ k, row29 B k = row29 A k := fun k => by unfold row29; rw [r 29 (by omega)]
  refine ⟨⟨⟨⟨FOk_c (r 2 (by omega)) (r 7 (by omega)) (r 8 (by omega)) f1, hl, by rw [r 1 (by omega)]; exact f3, f4, n1, n3⟩, by rw [r 28 (by omega), r 2 (by omega)]; exact c2, ?_, ⟨fun k hk hh => ?_, fun k hk hh => ?_⟩, fun p q1 q2 => ?_, by rw [r 2 (by omega)]; exact c6, n2, h30⟩, by rw [r 37 (by omega)]; exact b2, ⟨l1, l2, l3⟩, hm⟩, hs.c (fun o q => r o (by omega)) (by rw [r 12 (by omega)]) (fun o q1 q2 => r o (by omega)), hk.c h27 (r 28 (by omega)) (r 29 (by omega)) (fun o q1 q2 => r o (by omega)) (r 38 (by omega)), hg⟩
  · unfold Cp2
    rw [r 29 (by omega), r 2 (by omega), r 7 (by omega), r 8 (by omega)]
    exact c3
  · rw [eL] at hh
    rw [e3, e29, r 6 (by omega)]
    exact c4.1 k hk hh
  · rw [eL] at hh
    rw [e3]
    exact c4.2 k hk hh
  · rw [show RC B p = RC A p by unfold RC; rw [r 13 (by omega), r 14 (by omega), r 15 (by omega), r 16 (by omega)]]
    exact c5 p q1 q2
def Lv (x : Int32) : Prop := x = -1 ∨ ∃ m, m < 10 ∧ x = nI m
theorem Lv.ok {x : Int32} (h : Lv x) : x = -1 ∨ (x.toNatClampNeg < 10 ∧ x = nI x.toNatClampNeg) := by
  have cl : ∀ i : Nat, i < 10 → (nI i).toNatClampNeg = i := by decide +kernel
  rcases h with h | ⟨m, h1, rfl⟩
  · exact Or.inl h
  · rw [cl m h1]
    exact Or.inr ⟨h1, rfl⟩
theorem Dfd_Lit {A : Nat → Nat → Int32} {dm ncl : Nat} (h : Cpl A dm ncl) (x : Int32) : Dfd dm x ↔ Lit A x := by
  have e : ∀ m, m < 10 → (dm.testBit (m / 2) = true ↔ ¬ A 28 (m / 2) = 0) := fun m hm => by
    rw [h.2.1 _ (by omega)]
    exact h.2.2.2.2.2.1 _ (by omega)
  constructor
  · rintro ⟨m, h1, h2, h3⟩; exact ⟨m, h1, h2, (e m h1).mp h3⟩
  · rintro ⟨m, h1, h2, h3⟩; exact ⟨m, h1, h2, (e m h1).mpr h3⟩
theorem ClOk_M {A : Nat → Nat → Int32} {dm ncl : Nat} (h : Cpl A dm ncl) (p q r : Int32) : ClOk dm p q r ↔ ClOkM A p q r := by
  unfold ClOk ClOkM
  rw [Dfd_Lit h, Dfd_Lit h, Dfd_Lit h]
  constructor
  · rintro ⟨h1, h2, h3, h4⟩
    refine ⟨h2, h3, ?_⟩
    rcases h4 with h4 | h4
    · exact Or.inl h4
    · by_cases c : r = -1
      · exact Or.inl c
      · exact Or.inr ⟨fun z => h1 ⟨z, c⟩, h4⟩
  · rintro ⟨h1, h2, h3⟩
    refine ⟨?_, h1, h2, h3.imp id fun z => z.2⟩
    rintro ⟨z1, z2⟩
    rcases h3 with h3 | h3
    · exact z2 h3
    · exact h3.1 z1
theorem ClOk.lv {dm : Nat} {p q r : Int32} (h : ClOk dm p q r) : Lv p ∧ Lv q ∧ Lv r := by
  have f : ∀ x, Dfd dm x → Lv x := fun x ⟨m, h1, h2, _⟩ => Or.inr ⟨m, h1, h2⟩
  exact ⟨f p h.2.1, h.2.2.1.elim Or.inl (f q), h.2.2.2.elim Or.inl (f r)⟩
theorem cls_step {A : Nat → Nat → Int32} {G : Nat → Nat → Int64} {dm ncl lv : Nat} (h : Inv A G dm ncl lv) {p q r : Int32} (hok : ClOk dm p q r) (hn : ncl < 8) {A1 : Nat → Nat → Int32} (e1 : A1 = (u2 (u2 (u2 (u2 A 10 (ncl * 3) p) 10 (ncl * 3 + 1) q) 10 (ncl * 3 + 2) r) 9 2 (A 9 2 + 1))) : Inv (u2 (u2 (u2 (u2 A1 30 (3 * ncl) p) 30 (3 * ncl + 1) q) 30 (3 * ncl + 2) r) 27 4 (A1 27 4 + 1)) G dm (ncl + 1) lv := by
  obtain ⟨lp, lq, lr⟩ := hok.lv
  have hh := h
  obtain ⟨⟨⟨⟨f1, f2, f3, f4, f5, f6⟩, c2, c3, c4, c5, c6, c7, c8⟩, b2, ⟨b3, b4, b5⟩, b6⟩, hs, hk, hg⟩ := hh
  have e27 : A1 27 4 = nI ncl := by rw [e1]; (repeat rw [u2_ne (by omega)]); exact c7
  generalize hB : (u2 (u2 (u2 (u2 A1 30 (3 * ncl) p) 30 (3 * ncl + 1) q) 30 (3 * ncl + 2) r) 27 4 (A1 27 4 + 1)) = B
  have g10 : ∀ i, i < 24 → B 10 i = (if i = ncl * 3 + 2 then r else if i = ncl * 3 + 1 then q else if i = ncl * 3 then p else A 10 i) := fun i _ => by
    rw [← hB, e1]
    rw [u2_ne (by omega), u2_ne (by omega), u2_ne (by omega), u2_ne (by omega), u2_ne (by omega)]
    by_cases c : i = ncl * 3 + 2
    · rw [if_pos c, c, u2_s]
    · rw [if_neg c, u2_ne (by omega)]
      by_cases c1 : i = ncl * 3 + 1
      · rw [if_pos c1, c1, u2_s]
      · rw [if_neg c1, u2_ne (by omega)]
        by_cases c2 : i = ncl * 3
        · rw [if_pos c2, c2, u2_s]
        · rw [if_neg c2, u2_ne (by omega)]
  have g30 : ∀ i, i < 24 → B 30 i = (if i = ncl * 3 + 2 then r else if i = ncl * 3 + 1 then q else if i = ncl * 3 then p else A 30 i) := fun i _ => by
    rw [← hB, u2_ne (by omega)]
    by_cases c : i = ncl * 3 + 2
    · rw [if_pos c, show i = 3 * ncl + 2 by omega, u2_s]
    · rw [if_neg c, u2_ne (by omega)]
      by_cases c1 : i = ncl * 3 + 1
      · rw [if_pos c1, show i = 3 * ncl + 1 by omega, u2_s]
      · rw [if_neg c1, u2_ne (by omega)]
        by_cases c2 : i = ncl * 3
        · rw [if_pos c2, show i = 3 * ncl by omega, u2_s]
        · rw [if_neg c2, u2_ne (by omega), e1]
          repeat rw [u2_ne (by omega)]
  refine stk_step h ?_ ?_ ?_ ?_ (by omega) ?_ ?_ b5 ?_ ?_ ?_
  · intro o q1 q2 q3 q4 q5 q6
    funext k
    rw [← hB, e1]
    repeat rw [u2_ne (by omega)]
  · intro k q1 q2
    rw [← hB, e1]
    repeat rw [u2_ne (by omega)]
  · rw [← hB, e1]
    rw [u2_ne (by omega), u2_ne (by omega), u2_ne (by omega), u2_ne (by omega), u2_s, f5, nI_1]
  · rw [← hB, u2_s, e27, nI_1]
  · rw [← hB, e1]
    repeat rw [u2_ne (by omega)]
    exact b3
  · rw [← hB, e1]
    repeat rw [u2_ne (by omega)]
    exact b4
  · intro i hi
    have z : Lv (B 10 i) := by
      rw [g10 i hi]
      split
      · exact lr
      · split
        · exact lq
        · split
          · exact lp
          · rcases f2 i hi with z | ⟨z1, z2⟩
            · exact Or.inl z
            · exact Or.inr ⟨_, z1, z2⟩
    exact z.ok
  · intro i hi
    rw [g10 i hi, g30 i hi, c8 i hi]
  · intro i hi
    have e11 : B 11 i = A 11 i := by
      rw [← hB, e1]
      repeat rw [u2_ne (by omega)]
    have e31 : B 31 i = A 31 i := by
      rw [← hB, e1]
      repeat rw [u2_ne (by omega)]
    rw [e11, e31]
    exact b6 i hi
theorem push_step {A : Nat → Nat → Int32} {G : Nat → Nat → Int64} {dm ncl lv : Nat} (h : Inv A G dm ncl lv) (hn : lv < 4) {A1 : Nat → Nat → Int32} (e1 : A1 = (u2 (u2 A 11 lv (A 9 2)) 9 3 (A 9 3 + 1))) : Inv (u2 (u2 A1 31 lv (A1 27 4)) 27 5 (A1 27 5 + 1)) G dm ncl (lv + 1) := by
  have hh := h
  obtain ⟨⟨⟨⟨f1, f2, f3, f4, f5, f6⟩, c2, c3, c4, c5, c6, c7, c8⟩, b2, ⟨b3, b4, b5⟩, b6⟩, hs, hk, hg⟩ := hh
  have e27 : A1 27 4 = nI ncl := by rw [e1]; (repeat rw [u2_ne (by omega)]); exact c7
  have e275 : A1 27 5 = nI lv := by rw [e1]; (repeat rw [u2_ne (by omega)]); exact b4
  generalize hB : (u2 (u2 A1 31 lv (A1 27 4)) 27 5 (A1 27 5 + 1)) = B
  have g10 : B 10 = A 10 := by
    funext k
    rw [← hB, e1]
    repeat rw [u2_ne (by omega)]
  have g30 : B 30 = A 30 := by
    funext k
    rw [← hB, e1]
    repeat rw [u2_ne (by omega)]
  refine stk_step h ?_ ?_ ?_ ?_ f6 ?_ ?_ (by omega) ?_ ?_ ?_
  · intro o q1 q2 q3 q4 q5 q6
    funext k
    rw [← hB, e1]
    repeat rw [u2_ne (by omega)]
  · intro k q1 q2
    rw [← hB, e1]
    repeat rw [u2_ne (by omega)]
  · rw [← hB, e1]
    repeat rw [u2_ne (by omega)]
    exact f5
  · rw [← hB, u2_ne (by omega), u2_ne (by omega)]
    exact e27
  · rw [← hB, u2_ne (by omega), u2_ne (by omega), e1, u2_s, b3, nI_1]
  · rw [← hB, u2_s, e275, nI_1]
  · simpa only [LitOk, lit, g10] using f2
  · rw [g10, g30]; exact c8
  · intro i hi
    by_cases c : i = lv
    · subst c
      refine ⟨ncl, f6, ?_, ?_⟩
      · rw [← hB, u2_ne (by omega), u2_ne (by omega), e1, u2_ne (by omega), u2_s, f5]
      · rw [← hB, u2_ne (by omega), u2_s, e27]
    · have e11 : B 11 i = A 11 i := by
        rw [← hB, e1]
        repeat rw [u2_ne (by omega)]
      have e31 : B 31 i = A 31 i := by
        rw [← hB, e1]
        repeat rw [u2_ne (by omega)]
      rw [e11, e31]
      exact b6 i (by omega)
theorem nI_m1 : ∀ lv, 0 < lv → lv ≤ 4 → nI lv - 1 = nI (lv - 1) := by
  have h : ∀ lv, lv ≤ 4 → 0 < lv → nI lv - 1 = nI (lv - 1) := by decide +kernel
  exact fun lv h1 h2 => h lv h2 h1
theorem pop_step {A : Nat → Nat → Int32} {G : Nat → Nat → Int64} {dm ncl lv : Nat} (h : Inv A G dm ncl lv) (hn : 0 < lv) {A1 : Nat → Nat → Int32} (e1 : A1 = (u2 (u2 A 9 3 ((A 9 3) - 1)) 9 2 (A 11 (lv - 1)))) : ∃ ncl2, Inv (u2 (u2 A1 27 5 ((A1 27 5) - 1)) 27 4 (A1 31 (lv - 1))) G dm ncl2 (lv - 1) := by
  have hh := h
  obtain ⟨⟨⟨⟨f1, f2, f3, f4, f5, f6⟩, c2, c3, c4, c5, c6, c7, c8⟩, b2, ⟨b3, b4, b5⟩, b6⟩, hs, hk, hg⟩ := hh
  obtain ⟨m, m1, m2, m3⟩ := b6 (lv - 1) (by omega)
  have e275 : A1 27 5 = nI lv := by rw [e1]; (repeat rw [u2_ne (by omega)]); exact b4
  have e31 : A1 31 (lv - 1) = nI m := by rw [e1]; (repeat rw [u2_ne (by omega)]); exact m3
  generalize hB : (u2 (u2 A1 27 5 ((A1 27 5) - 1)) 27 4 (A1 31 (lv - 1))) = B
  have g10 : B 10 = A 10 := by
    funext k
    rw [← hB, e1]
    repeat rw [u2_ne (by omega)]
  have g30 : B 30 = A 30 := by
    funext k
    rw [← hB, e1]
    repeat rw [u2_ne (by omega)]
  refine ⟨m, stk_step h ?_ ?_ ?_ ?_ m1 ?_ ?_ (by omega) ?_ ?_ ?_⟩
  · intro o q1 q2 q3 q4 q5 q6
    funext k
    rw [← hB, e1]
    repeat rw [u2_ne (by omega)]
  · intro k q1 q2
    rw [← hB, e1]
    repeat rw [u2_ne (by omega)]
  · rw [← hB, u2_ne (by omega), u2_ne (by omega), e1, u2_s, m2]
  · rw [← hB, u2_s, e31]
  · rw [← hB, u2_ne (by omega), u2_ne (by omega), e1, u2_ne (by omega), u2_s, b3, nI_m1 lv hn b5]
  · rw [← hB, u2_ne (by omega), u2_s, e275, nI_m1 lv hn b5]
  · simpa only [LitOk, lit, g10] using f2
  · rw [g10, g30]; exact c8
  · intro i hi
    have e11 : B 11 i = A 11 i := by
      rw [← hB, e1]
      repeat rw [u2_ne (by omega)]
    have e31 : B 31 i = A 31 i := by
      rw [← hB, e1]
      repeat rw [u2_ne (by omega)]
    rw [e11, e31]
    exact b6 i (by omega)
