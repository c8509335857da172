/-! ===== the largest value, asked of both ===== -/
section VALS
variable {A A2 A3 A4 A5 : Nat → Nat → Int32} {G G3 G5 : Nat → Nat → Int64} {dm ncl lv cnt cnt2 : Nat} {a b c : Int32}
theorem mo1 (h : Inv A G dm ncl lv) (hm : MoF A G A2 A3 G3 cnt) : Bas A3 dm ncl lv ∧ Hkn A3 ∧ CacheI A3 cnt ∧ ∀ o, o ≠ 26 → A3 o = A2 o := by
  obtain ⟨m1, m2, m3, m4, m5⟩ := hm
  have e : ∀ o, o ≠ 26 → A3 o = A2 o := fun o q => funext fun k => m4 o k q
  obtain ⟨b1, k1⟩ := ask1 h m2
  exact ⟨(Keep.k26 m4).bas b1, k1.c (fun k _ _ => m4 27 k (by decide)) (e 28 (by decide)) (e 29 (by decide)) (fun o q1 q2 => e o (by omega)) (e 38 (by decide)), CacheI_c (fun o q1 q2 => e o (by omega)) (m4 12 9 (by decide)) (fun o q1 q2 => by
    by_cases z : o = 26
    · omega
    · exact e o z) m1, e⟩
theorem mo2 (hm : MoF A G A2 A3 G3 cnt) (hk : KnF A3 A4) : pkw A4 a b c dm ncl cnt 32 = pkw A2 a b c dm ncl cnt 32 := by
  have e : ∀ o, o < 26 → A4 o = A2 o := fun o q => by
    rw [hk.1 o (by omega) (by omega)]
    exact funext fun k => hm.2.2.2.1 o k (by omega)
  exact pkw_r (fun o q1 q2 => e o (by omega)) (e 10 (by omega)) a b c cnt 32
theorem mo3 (hr : R18 A4 A5) (hb : Bas A4 dm ncl lv) (hs : Hst A4) (hk : Hkn A4) : Bas A5 dm ncl lv ∧ Hst A5 ∧ Hkn A5 := by
  refine ⟨(Keep.k18 hr).bas hb, hs.c (fun o q => hr.row (by omega)) (hr 12 9 (by omega)) (fun o q1 q2 => hr.row (by omega)), fun q => ?_⟩
  rw [hr 27 6 (by omega)] at q ⊢
  obtain ⟨z, n, hc⟩ := hk q
  exact ⟨z, n, MCache_c (hr 27 13 (by omega)) (hr 27 19 (by omega)) (hr 27 20 (by omega)) (hr.row (by omega)) (hr.row (by omega)) (fun o q1 q2 => hr.row (by omega)) (hr.row (by omega)) hc⟩
theorem most_step (h : Inv A G dm ncl lv) (hf : f9 a ∧ f9 b ∧ f9 c) (hm : MoF A G A2 A3 G3 cnt) {h0 w0 : Nat} (hN : NumOk (pkw A2 a b c dm ncl cnt 32) h0 w0) (g6 : G3 0 6 = rdo (pkw A2 a b c dm ncl cnt 32) h0 w0) (g7 : G3 0 7 = rdu (pkw A2 a b c dm ncl cnt 32) h0 w0) (hc : MCache A4 cnt2) (hk : KnF A3 A4) (hk1 : A4 27 6 = 1) (hr : R18 A4 A5) (hg : ∀ o k, ¬ (o = 27 ∧ (k = 16 ∨ k = 17 ∨ k = 21 ∨ k = 22)) → G5 o k = G3 o k) {r : Option Value}
    (ho : ((mcw A4 a b c ncl cnt2 (G3 27 16, G3 27 17, 0) 160).2.2 = 0 ∧ r = some (.int 0) ∧ G5 27 21 = 0 ∧ G5 27 22 = 0) ∨ ((mcw A4 a b c ncl cnt2 (G3 27 16, G3 27 17, 0) 160).2.2 = 1 ∧ r = some (.int (mvM (rch A4 a b c ncl cnt2 (mcw A4 a b c ncl cnt2 (G3 27 16, G3 27 17, 0) 160).1 (mcw A4 a b c ncl cnt2 (G3 27 16, G3 27 17, 0) 160).2.1 160))) ∧ G5 27 21 = (mcw A4 a b c ncl cnt2 (G3 27 16, G3 27 17, 0) 160).1 ∧ G5 27 22 = (mcw A4 a b c ncl cnt2 (G3 27 16, G3 27 17, 0) 160).2.1)) :
    r = some (.int (mov (pkw A2 a b c dm ncl cnt 32))) ∧ Inv A5 G5 dm ncl lv := by
  obtain ⟨b1, k1, c1, -⟩ := mo1 h hm
  obtain ⟨hB, b2, s2, k2⟩ := ask2 b1 c1 hc hk hk1
  obtain ⟨b3, s3, k3⟩ := mo3 hr b2 s2 k2
  have bo := both (t := (G3 27 16, G3 27 17, 0)) hf hB b2.2.1 rfl
  rw [mo2 hm hk] at bo
  generalize pkw A2 a b c dm ncl cnt 32 = T at bo hN g6 g7
  have e6 : G5 0 6 = G3 0 6 := hg 0 6 (by decide)
  have e7 : G5 0 7 = G3 0 7 := hg 0 7 (by decide)
  rcases bo with ⟨rfl, hU⟩ | ⟨q, r0, hq, hr0, l1, l2, t1, t2, hU, t3, t4⟩
  · rcases ho with ⟨-, rfl, o1, o2⟩ | ⟨o0, -⟩
    · obtain ⟨z1, z2⟩ := rd_0 hN
      refine ⟨rfl, b3, s3, k3, Or.inl ⟨o2, ?_, ?_⟩⟩
      · rw [e6, g6, z1]
      · rw [e7, g7, z2]
    · rw [hU] at o0
      cases o0
  · rw [hU] at ho
    rcases ho with ⟨o0, -⟩ | ⟨-, rfl, o1, o2⟩
    · cases o0
    · obtain ⟨z1, z2⟩ := rd_of hf hq hN t1 t2
      obtain ⟨y1, y2⟩ := red64 hf hq hr0 l1 l2
      refine ⟨?_, b3, s3, k3, Or.inr ⟨nm a b c r0, (dn r0).toNat, ⟨by have := hr0.1; omega, by have := hr0.2.1; omega, nm_b hf hr0⟩, o1, o2.trans (W6_lN hr0), ?_, ?_⟩⟩
      · have e : mov T = mvM (rch A4 a b c ncl cnt2 (N6 a b c r0) (W6 r0) 160) := by
          unfold mov mvM
          rw [t2, if_pos (W6_pos hq)]
          rcases rch01 A4 a b c ncl cnt2 (N6 a b c r0) (W6 r0) 160 with z | z
          · have : T.2.2 = 0 := t3.resolve_right fun y => by rw [t4.mp y] at z; cases z
            rw [z, if_pos rfl, if_pos this]
          · have : ¬ T.2.2 = 0 := fun y => by rw [t4.mpr z] at y; cases y
            rw [z, if_neg this]
            rfl
        rw [e]
      · rw [e6, g6, z1, y1]
        rfl
      · rw [e7, g7, z2, y2, W6_lN hr0]
theorem le64 {d : Int32} (hd : f99 d) (hf : f9 a ∧ f9 b ∧ f9 c) {q : Crn} (hq : CB q) : N6 a b c q ≤ d.toInt64 * W6 q ↔ nm a b c q ≤ d.toInt * dn q := by
  have h1 := Int32.le_iff_toInt_le.mp hd.1
  have h2 := Int32.le_iff_toInt_le.mp hd.2
  have e1 : ((-99 : Int32)).toInt = -99 := by decide
  have e2 : ((99 : Int32)).toInt = 99 := by decide
  rw [e1] at h1
  rw [e2] at h2
  have hb : (dn q).natAbs ≤ 4374 := by have := hq.1; have := hq.2.1; omega
  have e3 : (d.toInt64 * W6 q).toInt = d.toInt * dn q := by
    rw [to64]
    unfold W6
    rw [← Int64.ofInt_mul]
    exact s64 (mulb (m := 99) (by omega) hb) (by decide)
  have e4 : (N6 a b c q).toInt = nm a b c q := s64 (nm_b hf hq) (by decide)
  rw [Int64.le_iff_toInt_le, e3, e4]
theorem le_lq {d : Int} {q r : Crn} (hq : CB q) (hr : CB r) (h1 : lq a b c r q) (h : nm a b c q ≤ d * dn q) : nm a b c r ≤ d * dn r := by
  have q1 := hq.1
  have r1 := hr.1
  unfold lq at h1
  have e1 := Int.mul_le_mul_of_nonneg_right h (Int.le_of_lt r1)
  have e2 : nm a b c r * dn q ≤ (d * dn r) * dn q := by
    have : d * dn q * dn r = d * dn r * dn q := by grind
    omega
  exact Int.le_of_mul_le_mul_right e2 q1
theorem GIv_c {G G5 : Nat → Nat → Int64} (h : GIv G) (h6 : G5 0 6 = G 0 6) (h7 : G5 0 7 = G 0 7) (h21 : G5 27 21 = G 27 21) (h22 : G5 27 22 = G 27 22) : GIv G5 := by
  unfold GIv
  rw [h6, h7, h21, h22]
  exact h
theorem bnd_step (h : Inv A G dm ncl lv) (hf : f9 a ∧ f9 b ∧ f9 c) {d : Int32} (hd : f99 d) (hm : MoF A G A2 A3 G3 cnt) (g6 : G3 0 6 = G 0 6) (g7 : G3 0 7 = G 0 7) (hc : MCache A4 cnt2) (hk : KnF A3 A4) (hk1 : A4 27 6 = 1) (hg : ∀ o k, ¬ (o = 27 ∧ (k = 16 ∨ k = 17)) → G5 o k = G3 o k) :
    bi ((mcw A4 a b c ncl cnt2 (G3 27 16, G3 27 17, 0) 160).2.2 = 0 ∨ (mcw A4 a b c ncl cnt2 (G3 27 16, G3 27 17, 0) 160).1 ≤ d.toInt64 * (mcw A4 a b c ncl cnt2 (G3 27 16, G3 27 17, 0) 160).2.1) = bi ((pkw A2 a b c dm ncl cnt 32).1 ≤ d.toInt64 * (pkw A2 a b c dm ncl cnt 32).2.1) ∧ Inv A4 G5 dm ncl lv := by
  obtain ⟨b1, k1, c1, -⟩ := mo1 h hm
  obtain ⟨hB, b2, s2, k2⟩ := ask2 b1 c1 hc hk hk1
  have bo := both (t := (G3 27 16, G3 27 17, 0)) hf hB b2.2.1 rfl
  rw [mo2 hm hk] at bo
  have m5 := hm.2.2.2.2
  refine ⟨?_, b2, s2, k2, GIv_c h.2.2.2 ((hg 0 6 (by decide)).trans g6) ((hg 0 7 (by decide)).trans g7) ((hg 27 21 (by decide)).trans (m5 27 21 (by decide) (by decide))) ((hg 27 22 (by decide)).trans (m5 27 22 (by decide) (by decide)))⟩
  rcases bo with ⟨e, hU⟩ | ⟨q, r0, hq, hr0, l1, l2, t1, t2, hU, t3, t4⟩
  · rw [e, bi_t (Or.inl hU), bi_t]
    show (0 : Int64) ≤ d.toInt64 * 0
    rw [Int64.mul_zero]
    exact Int64.le_refl _
  · rw [hU, t1, t2]
    apply bi_c
    rw [le64 hd hf hq]
    constructor
    · rintro (z | z)
      · cases z
      · exact le_lq hr0 hq l1 ((le64 hd hf hr0).mp z)
    · exact fun z => Or.inr ((le64 hd hf hr0).mpr (le_lq hq hr0 l2 z))
theorem top_num (h : GIv G) : ¬ G 27 22 = 0 → ∃ h0 w0, (if G 27 21 < 0 then -(G 27 21) else G 27 21) = lN h0 ∧ h0 < 2 ^ 62 ∧ w0 < 2 ^ 62 ∧ G 27 22 = lN w0 ∧ 0 < w0 := by
  intro q
  rcases h with ⟨z, -⟩ | ⟨x, w, ⟨w1, w2, w3⟩, e1, e2, -⟩
  · exact absurd z q
  · rw [e1]
    exact ⟨x.natAbs, w, (abs64 w3).2, by omega, by omega, e2, w1⟩
theorem top_eq (h : GIv G) {x : Int32} {r : Option Value} (ho : ((G 27 22 = 0 ∨ ¬ (0 ≤ x ∧ x ≤ 1)) ∧ r = some (.long 0)) ∨ (¬ G 27 22 = 0 ∧ (0 ≤ x ∧ x ≤ 1) ∧ ∃ h0 w0, (if G 27 21 < 0 then -(G 27 21) else G 27 21) = lN h0 ∧ h0 < 2 ^ 62 ∧ w0 < 2 ^ 62 ∧ G 27 22 = lN w0 ∧ 0 < w0 ∧ r = some (.long (topM G x h0 w0)))) : r = some (.long (if x = 0 then G 0 6 else if x = 1 then G 0 7 else 0)) := by
  rcases ho with ⟨o1, rfl⟩ | ⟨o1, o2, h0, w0, e1, e2, e3, e4, e5, rfl⟩
  · by_cases c0 : x = 0
    · subst c0
      have z : G 27 22 = 0 := o1.resolve_right fun y => y ⟨by decide, by decide⟩
      rcases h with ⟨-, y1, y2⟩ | ⟨x, w, ⟨w1, w2, w3⟩, -, y1, -⟩
      · rw [if_pos rfl, y1]
      · rw [z] at y1
        exact absurd y1.symm (lN_ne (by omega) w1)
    · by_cases c1 : x = 1
      · subst c1
        have z : G 27 22 = 0 := o1.resolve_right fun y => y ⟨by decide, by decide⟩
        rcases h with ⟨-, y1, y2⟩ | ⟨x, w, ⟨w1, w2, w3⟩, -, y1, -⟩
        · rw [if_neg c0, if_pos rfl, y2]
        · rw [z] at y1
          exact absurd y1.symm (lN_ne (by omega) w1)
      · rw [if_neg c0, if_neg c1]
  · rcases h with ⟨z, -⟩ | ⟨x2, w, ⟨w1, w2, w3⟩, y1, y2, y3, y4⟩
    · exact absurd z o1
    · have a1 : h0 = x2.natAbs := by
        rw [y1] at e1
        exact lN_inj (by omega) (by omega) (e1.symm.trans (abs64 w3).2)
      have a2 : w0 = w := lN_inj (by omega) (by omega) (e4.symm.trans y2)
      subst a1 a2
      unfold topM
      by_cases c0 : x = 0
      · rw [if_pos c0, if_pos c0, y1, y3]
      · have c1 : x = 1 := by
          obtain ⟨m, m1, m2⟩ := ix3 (x := x) ⟨o2.1, Int32.lt_of_le_of_lt o2.2 (by decide)⟩
          rcases (show m = 0 ∨ m = 1 ∨ m = 2 by omega) with rfl | rfl | rfl
          · exact absurd m2 c0
          · exact m2
          · rw [m2] at o2
            exact absurd o2.2 (by decide)
        rw [if_neg c0, if_neg c0, if_pos c1, y2, y4]
end VALS
