/-! ===== the largest value: one on both sides ===== -/
def Cel (A : Nat → Nat → Int32) (dm ncl : Nat) (s p : Nat) : Prop := s < 32 ∧ p < 5 ∧ Wd A dm ncl s ∧ ¬ A 23 (s * 5 + p) = 0
theorem PkI.K {A : Nat → Nat → Int32} {a b c : Int32} {cnt : Nat} {K K2 : Nat → Nat → Prop} {t : Tr} (h : PkI A a b c cnt K t) (e : ∀ s p, K s p ↔ K2 s p) : PkI A a b c cnt K2 t := by
  have : K = K2 := by
    funext s p
    exact propext (e s p)
  rw [← this]
  exact h
theorem CornI.cb {A : Nat → Nat → Int32} {cnt : Nat} (h : CornI A cnt) (hn : ∀ p, p < 14 → Nrm (RC A p)) : ∀ n, n < cnt → CB (cC A n) := by
  intro n hn2
  obtain ⟨p, q, r, g1, g2, g3, g4⟩ := (crn_T3C h (cC A n)).mp ⟨n, hn2, rfl⟩
  exact T3_CB (hn p (by omega)) (hn q (by omega)) (hn r g3) g4
section MOST
variable {A : Nat → Nat → Int32} {dm ncl cnt cnt2 : Nat} {a b c : Int32}
theorem pks_I (hf : f9 a ∧ f9 b ∧ f9 c) (hC : CacheI A cnt) (hB : ∀ n, n < cnt → CB (cC A n)) {K0 : Nat → Nat → Prop} {t : Tr} (h : PkI A a b c cnt K0 t) {s : Nat} (hs : s < 32) : ∀ P, P ≤ 5 → PkI A a b c cnt (fun s2 p2 => K0 s2 p2 ∨ (s2 = s ∧ p2 < P ∧ ¬ A 23 (s * 5 + p2) = 0)) (pks A a b c cnt t s P) := by
  intro P
  induction P with
  | zero => exact fun _ => h.K fun s2 p2 => ⟨Or.inl, fun z => z.elim id fun z2 => absurd z2.2.1 (by omega)⟩
  | succ P ih =>
    intro hP
    have ih := ih (by omega)
    rcases Classical.em (¬ A 23 (s * 5 + P) = 0) with q | q
    · rw [pks_t q, (hC.2.2.2.2 s P hs (by omega)).1, (hC.2.2.2.2 s P hs (by omega)).2.1]
      refine ih.inc hf hB hC.2.2.2.1.sd fun s2 p2 => ?_
      constructor
      · rintro (z | ⟨rfl, z1, z2⟩)
        · exact Or.inl (Or.inl z)
        · by_cases e : p2 = P
          · exact Or.inr ⟨rfl, e⟩
          · exact Or.inl (Or.inr ⟨rfl, by omega, z2⟩)
      · rintro ((z | ⟨rfl, z1, z2⟩) | ⟨rfl, rfl⟩)
        · exact Or.inl z
        · exact Or.inr ⟨rfl, by omega, z2⟩
        · exact Or.inr ⟨rfl, by omega, q⟩
    · rw [pks_f q]
      refine ih.K fun s2 p2 => ?_
      constructor
      · rintro (z | ⟨rfl, z1, z2⟩)
        · exact Or.inl z
        · exact Or.inr ⟨rfl, by omega, z2⟩
      · rintro (z | ⟨rfl, z1, z2⟩)
        · exact Or.inl z
        · by_cases e : p2 = P
          · subst e; exact absurd z2 q
          · exact Or.inr ⟨rfl, by omega, z2⟩
theorem pkw_I (hf : f9 a ∧ f9 b ∧ f9 c) (hC : CacheI A cnt) (hB : ∀ n, n < cnt → CB (cC A n)) : ∀ S, S ≤ 32 → PkI A a b c cnt (fun s p => Cel A dm ncl s p ∧ s < S) (pkw A a b c dm ncl cnt S) := by
  intro S
  induction S with
  | zero => exact fun _ => Or.inl ⟨fun s p h => absurd h.2 (by omega), rfl⟩
  | succ S ih =>
    intro hS
    have ih := ih (by omega)
    rcases Classical.em (Wd A dm ncl S) with q | q
    · rw [pkw_t q]
      refine (pks_I hf hC hB ih (s := S) (by omega) 5 (by omega)).K fun s p => ?_
      constructor
      · rintro (⟨z1, z2⟩ | ⟨rfl, z1, z2⟩)
        · exact ⟨z1, by omega⟩
        · exact ⟨⟨by omega, z1, q, z2⟩, by omega⟩
      · rintro ⟨z1, z2⟩
        by_cases e : s = S
        · subst e; exact Or.inr ⟨rfl, z1.2.1, z1.2.2.2⟩
        · exact Or.inl ⟨z1, by omega⟩
    · rw [pkw_f q]
      refine ih.K fun s p => ?_
      constructor
      · rintro ⟨z1, z2⟩; exact ⟨z1, by omega⟩
      · rintro ⟨z1, z2⟩
        by_cases e : s = S
        · subst e; exact absurd z1.2.2.1 q
        · exact ⟨z1, by omega⟩
theorem pkT (hf : f9 a ∧ f9 b ∧ f9 c) (hC : CacheI A cnt) (hB : ∀ n, n < cnt → CB (cC A n)) : PkI A a b c cnt (Cel A dm ncl) (pkw A a b c dm ncl cnt 32) := (pkw_I hf hC hB 32 (Nat.le_refl _)).K fun _ _ => ⟨fun z => z.1, fun z => ⟨z, z.1⟩⟩
theorem abs64 {X : Int} (h : X.natAbs ≤ 2361960) : (if 0 < Int64.ofInt X then Int64.ofInt X else -Int64.ofInt X) = lN X.natAbs ∧ (if Int64.ofInt X < 0 then -Int64.ofInt X else Int64.ofInt X) = lN X.natAbs := by
  have e1 : (Int64.ofInt X).toInt = X := s64 h (by decide)
  have e2 : -Int64.ofInt X = Int64.ofInt (-X) := (Int64.ofInt_neg X).symm
  have e0 : (0 : Int64).toInt = 0 := by decide
  have hl : lN X.natAbs = Int64.ofInt (X.natAbs : Int) := by
    unfold lN
    rw [Int64.ofInt_eq_ofNat]
  rw [hl, e2]
  constructor
  · by_cases q : 0 < Int64.ofInt X
    · have := Int64.lt_iff_toInt_lt.mp q
      rw [e1, e0] at this
      rw [if_pos q, show (X.natAbs : Int) = X by omega]
    · have : ¬ (0 : Int64).toInt < (Int64.ofInt X).toInt := fun z => q (Int64.lt_iff_toInt_lt.mpr z)
      rw [e1, e0] at this
      rw [if_neg q, show (X.natAbs : Int) = -X by omega]
  · by_cases q : Int64.ofInt X < 0
    · have := Int64.lt_iff_toInt_lt.mp q
      rw [e1, e0] at this
      rw [if_pos q, show (X.natAbs : Int) = -X by omega]
    · have : ¬ (Int64.ofInt X).toInt < (0 : Int64).toInt := fun z => q (Int64.lt_iff_toInt_lt.mpr z)
      rw [e1, e0] at this
      rw [if_neg q, show (X.natAbs : Int) = X by omega]
theorem W6_lN {q : Crn} (h : CB q) : W6 q = lN (dn q).toNat := by
  unfold W6 lN
  have := h.1
  rw [← Int64.ofInt_eq_ofNat, show ((dn q).toNat : Int) = dn q by omega]
theorem numOk (hf : f9 a ∧ f9 b ∧ f9 c) (hC : CacheI A cnt) (hB : ∀ n, n < cnt → CB (cC A n)) : ∃ h0 w0, NumOk (pkw A a b c dm ncl cnt 32) h0 w0 := by
  rcases pkT (dm := dm) (ncl := ncl) hf hC hB with ⟨_, e⟩ | ⟨m, g1, g2, g3, g4, g5, g6, g7⟩
  · rw [e]
    exact ⟨0, 0, by decide, by decide, by decide, by decide, Or.inl rfl⟩
  · have bm := hB m g1
    have hb := nm_b hf bm
    refine ⟨(nm a b c (cC A m)).natAbs, (dn (cC A m)).toNat, ?_, by omega, by have := bm.2.1; omega, by rw [g4, W6_lN bm], g6⟩
    rw [g3]
    exact (abs64 hb).1
/-- the model's climb: the first largest of what it has looked at -/
def MI2 (A : Nat → Nat → Int32) (a b c : Int32) (cnt2 : Nat) (Q : Nat → Prop) (t : Tr) : Prop := ((∀ n, n < cnt2 → ¬ Q n) ∧ t.2.2 = 0) ∨ ∃ m, m < cnt2 ∧ Q m ∧ t = (N6 a b c (cQ A m), W6 (cQ A m), 1) ∧ ∀ n, n < cnt2 → Q n → lq a b c (cQ A n) (cQ A m)
theorem MI2.Q {Q Q2 : Nat → Prop} {t : Tr} (h : MI2 A a b c cnt2 Q t) (e : ∀ n, n < cnt2 → (Q n ↔ Q2 n)) : MI2 A a b c cnt2 Q2 t := by
  rcases h with ⟨h1, h2⟩ | ⟨m, h1, h2, h3, h4⟩
  · exact Or.inl ⟨fun n hn z => h1 n hn ((e n hn).mpr z), h2⟩
  · exact Or.inr ⟨m, h1, (e m h1).mp h2, h3, fun n hn z => h4 n hn ((e n hn).mpr z)⟩
theorem cmp_iff (hf : f9 a ∧ f9 b ∧ f9 c) {n m : Nat} (hn : CB (cQ A n)) (hm : CB (cQ A m)) : (0 < cmpM A (N6 a b c (cQ A m)) (W6 (cQ A m)) a b c n ↔ ¬ lq a b c (cQ A n) (cQ A m)) ∧ (cmpM A (N6 a b c (cQ A m)) (W6 (cQ A m)) a b c n = 0 ↔ (lq a b c (cQ A m) (cQ A n) ∧ lq a b c (cQ A n) (cQ A m))) := by
  have e1 := cr_lt (a := a) (b := b) (c := c) hf hn hm
  have e2 := cr_lt (a := a) (b := b) (c := c) hf hm hn
  have ed : (A 33 (4 * n + 3)).toInt64 = W6 (cQ A n) := (vM_N (A := A) a b c n).2
  unfold cmpM
  rw [(vM_N a b c n).1, ed]
  by_cases c1 : N6 a b c (cQ A n) * W6 (cQ A m) < N6 a b c (cQ A m) * W6 (cQ A n)
  · rw [if_pos c1]
    have n1 := e1.mp c1
    have n2 : lq a b c (cQ A n) (cQ A m) := (lq_tot a b c _ _).resolve_left n1
    exact ⟨⟨fun z => absurd z (by decide), fun z => absurd n2 z⟩, ⟨fun z => absurd z (by decide), fun z => absurd z.1 n1⟩⟩
  · rw [if_neg c1]
    have n1 : lq a b c (cQ A m) (cQ A n) := Classical.byContradiction fun z => c1 (e1.mpr z)
    by_cases c2 : N6 a b c (cQ A m) * W6 (cQ A n) < N6 a b c (cQ A n) * W6 (cQ A m)
    · rw [if_pos c2]
      have n2 := e2.mp c2
      exact ⟨⟨fun _ => n2, fun _ => by decide⟩, ⟨fun z => absurd z (by decide), fun z => absurd z.2 n2⟩⟩
    · rw [if_neg c2]
      have n2 : lq a b c (cQ A n) (cQ A m) := Classical.byContradiction fun z => c2 (e2.mpr z)
      exact ⟨⟨fun z => absurd z (by decide), fun z => absurd n2 z⟩, ⟨fun _ => ⟨n1, n2⟩, fun _ => rfl⟩⟩
theorem mcl_I (hf : f9 a ∧ f9 b ∧ f9 c) (hB : ∀ n, n < cnt2 → CB (cQ A n)) {x pt : Int32} {F : Nat → Prop} (hF : ∀ n, n < cnt2 → (fitM A x pt n ↔ F n)) {Q : Nat → Prop} {t : Tr} (h : MI2 A a b c cnt2 Q t) : ∀ k, k ≤ cnt2 → MI2 A a b c cnt2 (fun n => Q n ∨ (n < k ∧ F n)) (mcl A a b c x pt t k) := by
  intro k
  induction k with
  | zero => exact fun _ => h.Q fun n _ => ⟨Or.inl, fun z => z.elim id fun z2 => absurd z2.1 (by omega)⟩
  | succ k ih =>
    intro hk
    have ih := ih (by omega)
    have bk := hB k (by omega)
    rcases Classical.em (F k) with q | q
    · have qk := (hF k (by omega)).mpr q
      have ext : ∀ n, n < cnt2 → ((Q n ∨ (n < k + 1 ∧ F n)) ↔ ((Q n ∨ (n < k ∧ F n)) ∨ n = k)) := fun n _ => by
        constructor
        · rintro (z | ⟨z1, z2⟩)
          · exact Or.inl (Or.inl z)
          · by_cases e : n = k
            · exact Or.inr e
            · exact Or.inl (Or.inr ⟨by omega, z2⟩)
        · rintro ((z | ⟨z1, z2⟩) | rfl)
          · exact Or.inl z
          · exact Or.inr ⟨by omega, z2⟩
          · exact Or.inr ⟨by omega, q⟩
      rcases ih with ⟨h1, h2⟩ | ⟨m, h1, h2, h3, h4⟩
      · have hb : bet A a b c x pt (mcl A a b c x pt t k) k := ⟨qk, Or.inl h2⟩
        rw [mcl_t hb, upM_N hf bk, (vM_N a b c k).2]
        refine Or.inr ⟨k, by omega, Or.inr ⟨by omega, q⟩, rfl, fun n hn hq => ?_⟩
        rcases (ext n hn).mp hq with z | rfl
        · exact absurd z (h1 n hn)
        · exact lq_rf _ _ _ _
      · have bm := hB m h1
        have hc := cmp_iff hf bk bm
        by_cases g : lq a b c (cQ A k) (cQ A m)
        · have hb : ¬ bet A a b c x pt (mcl A a b c x pt t k) k := by
            rintro ⟨-, z | z⟩
            · rw [h3] at z; cases z
            · rw [h3] at z; exact hc.1.mp z g
          rw [mcl_f hb]
          refine Or.inr ⟨m, h1, (ext m h1).mpr (Or.inl h2), h3, fun n hn hq => ?_⟩
          rcases (ext n hn).mp hq with z | rfl
          · exact h4 n hn z
          · exact g
        · have hb : bet A a b c x pt (mcl A a b c x pt t k) k := ⟨qk, Or.inr (by rw [h3]; exact hc.1.mpr g)⟩
          rw [mcl_t hb, upM_N hf bk, (vM_N a b c k).2]
          have g2 : lq a b c (cQ A m) (cQ A k) := (lq_tot a b c _ _).resolve_left g
          refine Or.inr ⟨k, by omega, Or.inr ⟨by omega, q⟩, rfl, fun n hn hq => ?_⟩
          rcases (ext n hn).mp hq with z | rfl
          · exact lq_tr bm.1 (hB n hn).1 bk.1 (h4 n hn z) g2
          · exact lq_rf _ _ _ _
    · have hb : ¬ bet A a b c x pt (mcl A a b c x pt t k) k := fun z => q ((hF k (by omega)).mp z.1)
      rw [mcl_f hb]
      refine ih.Q fun n _ => ?_
      constructor
      · rintro (z | ⟨z1, z2⟩)
        · exact Or.inl z
        · exact Or.inr ⟨by omega, z2⟩
      · rintro (z | ⟨z1, z2⟩)
        · exact Or.inl z
        · by_cases e : n = k
          · subst e; exact absurd z2 q
          · exact Or.inr ⟨by omega, z2⟩
def FtQ (A : Nat → Nat → Int32) (s p n : Nat) : Prop := FitS A s p (vQ A n)
theorem okc_Cel (h : Bth A dm ncl cnt cnt2) {k : Nat} (hk : k < 160) : okc A ncl k ↔ Cel A dm ncl (k / 5) (k % 5) := by
  have h1 : k / 5 < 32 := by omega
  have h2 : k % 5 < 5 := by omega
  have e := h.mc.2.2.2.2.2 (k / 5) (k % 5) h1 h2
  rw [show 5 * (k / 5) + k % 5 = k by omega] at e
  unfold okc Cel
  rw [e, bi_n, h.pos h1 h2, h.wd h1]
  constructor
  · rintro ⟨⟨z1, z2⟩, z3⟩
    exact ⟨h1, h2, ⟨⟨k % 5, h2, (h.pos h1 h2).mpr ⟨z1, z2⟩⟩, z3⟩, z2⟩
  · rintro ⟨-, -, ⟨⟨p, z1, z2⟩, z3⟩, z4⟩
    exact ⟨⟨((h.pos h1 z1).mp z2).1, z4⟩, z3⟩
theorem mcw_I (hf : f9 a ∧ f9 b ∧ f9 c) (h : Bth A dm ncl cnt cnt2) (hpt : ∀ p, p < 5 → A 37 p = nI (part p)) (hB : ∀ n, n < cnt2 → CB (cQ A n)) {t : Tr} (ht : t.2.2 = 0) : ∀ k, k ≤ 160 → MI2 A a b c cnt2 (fun n => ∃ s p, (Cel A dm ncl s p ∧ 5 * s + p < k) ∧ FtQ A s p n) (mcw A a b c ncl cnt2 t k) := by
  intro k
  induction k with
  | zero => exact fun _ => Or.inl ⟨fun n _ ⟨s, p, z, _⟩ => absurd z.2 (by omega), ht⟩
  | succ k ih =>
    intro hk
    have ih := ih (by omega)
    have h1 : k / 5 < 32 := by omega
    have h2 : k % 5 < 5 := by omega
    rcases Classical.em (okc A ncl k) with q | q
    · have qc := (okc_Cel h (by omega)).mp q
      rw [mcw_t q, (d5 k (by omega)).1, hpt _ h2]
      have hF : ∀ n, n < cnt2 → (fitM A (nI (k / 5)) (nI (part (k % 5))) n ↔ FtQ A (k / 5) (k % 5) n) := fun n hn => fitM_iff h.c1 (h.mc.2.2.2.1.sm n hn) h.mc.2.2.2.2.1.1 h.mc.2.2.2.2.1.2 h1 h2
      refine (mcl_I hf hB hF ih cnt2 (Nat.le_refl _)).Q fun n hn => ?_
      constructor
      · rintro (⟨s, p, ⟨z1, z2⟩, z3⟩ | ⟨z1, z2⟩)
        · exact ⟨s, p, ⟨z1, by omega⟩, z3⟩
        · exact ⟨k / 5, k % 5, ⟨qc, by omega⟩, z2⟩
      · rintro ⟨s, p, ⟨z1, z2⟩, z3⟩
        by_cases e : 5 * s + p = k
        · have hp := z1.2.1
          obtain rfl : s = k / 5 := by omega
          obtain rfl : p = k % 5 := by omega
          exact Or.inr ⟨hn, z3⟩
        · exact Or.inl ⟨s, p, ⟨z1, by omega⟩, z3⟩
    · rw [mcw_f q]
      refine ih.Q fun n hn => ?_
      constructor
      · rintro ⟨s, p, ⟨z1, z2⟩, z3⟩
        exact ⟨s, p, ⟨z1, by omega⟩, z3⟩
      · rintro ⟨s, p, ⟨z1, z2⟩, z3⟩
        by_cases e : 5 * s + p = k
        · have hp := z1.2.1
          obtain rfl : s = k / 5 := by omega
          obtain rfl : p = k % 5 := by omega
          exact absurd ((okc_Cel h (by omega)).mpr z1) q
        · exact ⟨s, p, ⟨z1, by omega⟩, z3⟩
theorem rch_iff (up dn : Int64) (k : Nat) : rch A a b c ncl cnt2 up dn k = 1 ↔ ∃ j, j < k ∧ okc A ncl j ∧ OpM A (nI j / 5) (A 37 (j % 5)) 1 up dn a b c cnt2 := by
  have o1 : ∀ x y : Int32, (x = 0 ∨ x = 1) → (y = 0 ∨ y = 1) → (x ||| y = 1 ↔ (x = 1 ∨ y = 1)) := by
    rintro x y (rfl | rfl) (rfl | rfl) <;> decide
  induction k with
  | zero =>
    constructor
    · intro z; cases z
    · rintro ⟨j, z, _⟩; omega
  | succ k ih =>
    rcases Classical.em (okc A ncl k) with q | q
    · rw [rch_t q, o1 _ _ (rch01 A a b c ncl cnt2 up dn k) (bi_01 _), propext ih]
      have eb : bi (OpM A (nI k / 5) (A 37 (k % 5)) 1 up dn a b c cnt2) = 1 ↔ OpM A (nI k / 5) (A 37 (k % 5)) 1 up dn a b c cnt2 := by
        constructor
        · intro z
          refine Classical.byContradiction fun y => ?_
          rw [bi_f y] at z
          cases z
        · exact bi_t
      rw [eb]
      constructor
      · rintro (⟨j, z1, z2⟩ | z)
        · exact ⟨j, by omega, z2⟩
        · exact ⟨k, by omega, q, z⟩
      · rintro ⟨j, z1, z2⟩
        by_cases e : j = k
        · subst e; exact Or.inr z2.2
        · exact Or.inl ⟨j, by omega, z2⟩
    · rw [rch_f q, propext ih]
      constructor
      · rintro ⟨j, z1, z2⟩; exact ⟨j, by omega, z2⟩
      · rintro ⟨j, z1, z2⟩
        by_cases e : j = k
        · subst e; exact absurd z2.1 q
        · exact ⟨j, by omega, z2⟩
/-- both largest values -/
theorem both (hf : f9 a ∧ f9 b ∧ f9 c) (h : Bth A dm ncl cnt cnt2) (hpt : ∀ p, p < 5 → A 37 p = nI (part p)) {t : Tr} (ht : t.2.2 = 0) :
    (pkw A a b c dm ncl cnt 32 = (0, 0, 0) ∧ (mcw A a b c ncl cnt2 t 160).2.2 = 0) ∨ ∃ q r, CB q ∧ CB r ∧ lq a b c q r ∧ lq a b c r q ∧ (pkw A a b c dm ncl cnt 32).1 = N6 a b c q ∧ (pkw A a b c dm ncl cnt 32).2.1 = W6 q ∧ mcw A a b c ncl cnt2 t 160 = (N6 a b c r, W6 r, 1) ∧ ((pkw A a b c dm ncl cnt 32).2.2 = 0 ∨ (pkw A a b c dm ncl cnt 32).2.2 = 1) ∧ ((pkw A a b c dm ncl cnt 32).2.2 = 1 ↔ rch A a b c ncl cnt2 (N6 a b c r) (W6 r) 160 = 1) := by
  have hB := h.ca.2.2.2.1.cb (nrmC h.ca.2.2.1 h.cpl.2.2.2.1 h.cpl.2.2.2.2.1)
  have hB2 : ∀ n, n < cnt2 → CB (cQ A n) := fun n hn => by
    obtain ⟨m, h1, h2⟩ := (h.crn (cQ A n)).mpr ⟨n, hn, rfl⟩
    rw [← h2]
    exact hB m h1
  have hT := pkT (dm := dm) (ncl := ncl) hf h.ca hB
  have hU := (mcw_I hf h hpt hB2 ht 160 (Nat.le_refl _)).Q (Q2 := fun n => ∃ s p, Cel A dm ncl s p ∧ FtQ A s p n) fun n hn => ⟨fun ⟨s, p, z1, z2⟩ => ⟨s, p, z1.1, z2⟩, fun ⟨s, p, z1, z2⟩ => ⟨s, p, ⟨z1, by have := z1.1; have := z1.2.1; omega⟩, z2⟩⟩
  have tr : ∀ s p, (∃ n, n < cnt ∧ Fts A s p n) ↔ ∃ n, n < cnt2 ∧ FtQ A s p n := fun s p => exc h.crn (fun c => FitS A s p (fo4 A c))
  rcases hT with ⟨h1, h2⟩ | ⟨m, g1, ⟨s0, p0, g2, g2'⟩, g3, g4, g5, g6, g7⟩
  · rcases hU with ⟨k1, k2⟩ | ⟨m2, k1, ⟨s, p, k2, k2'⟩, k3, k4⟩
    · exact Or.inl ⟨h2, k2⟩
    · obtain ⟨n, z1, z2⟩ := (tr s p).mpr ⟨m2, k1, k2'⟩
      exact absurd z2 (h1 s p k2 n z1)
  · rcases hU with ⟨k1, k2⟩ | ⟨m2, k1, ⟨s, p, k2, k2'⟩, k3, k4⟩
    · obtain ⟨n, z1, z2⟩ := (tr s0 p0).mp ⟨m, g1, g2'⟩
      exact absurd ⟨s0, p0, g2, z2⟩ (k1 n z1)
    · have bm := hB m g1
      have bm2 := hB2 m2 k1
      have l1 : lq a b c (cC A m) (cQ A m2) := by
        obtain ⟨n, z1, z2, z3⟩ := (exc h.crn (fun e => FitS A s0 p0 (fo4 A e) ∧ e = cC A m)).mp ⟨m, g1, g2', rfl⟩
        rw [← z3]
        exact k4 n z1 ⟨s0, p0, g2, z2⟩
      have l2 : lq a b c (cQ A m2) (cC A m) := by
        obtain ⟨n, z1, z2, z3⟩ := (exc h.crn (fun e => FitS A s p (fo4 A e) ∧ e = cQ A m2)).mpr ⟨m2, k1, k2', rfl⟩
        rw [← z3]
        exact g5 s p k2 n z1 z2
      refine Or.inr ⟨cC A m, cQ A m2, bm, bm2, l1, l2, g3, g4, k3, g6, ?_⟩
      rw [g7, rch_iff]
      have cellEq : ∀ s p, Cel A dm ncl s p → (Rea A a b c cnt m s p ↔ OpM A (nI s) (nI (part p)) 1 (N6 a b c (cQ A m2)) (W6 (cQ A m2)) a b c cnt2) := fun s p hc => by
        rw [OpM_iff h.c1 h.mc.2.2.2.1.sm h.mc.2.2.2.2.1.1 h.mc.2.2.2.2.1.2 hc.1 hc.2.1]
        have e1 := exc h.crn (fun e => FitS A s p (fo4 A e) ∧ lq a b c (cC A m) e)
        have e2 := SidS_x h.crn s p (fun e => FitS A s p (fo4 A e) ∧ lq a b c (cC A m) e)
        have hP : ∀ n, n < cnt2 → ((FitS A s p (fo4 A (cQ A n)) ∧ lq a b c (cC A m) (cQ A n)) ↔ (FitS A s p (vQ A n) ∧ cmpM A (N6 a b c (cQ A m2)) (W6 (cQ A m2)) a b c n = 0)) := fun n hn => by
          have bn := hB2 n hn
          refine and_congr_right fun hfit => ?_
          rw [(cmp_iff hf bn bm2).2]
          exact ⟨fun z => ⟨lq_tr bm.1 bm2.1 bn.1 l2 z, k4 n hn ⟨s, p, hc, hfit⟩⟩, fun z => lq_tr bm2.1 bm.1 bn.1 l1 z.1⟩
        unfold Rea
        refine and_congr (e1.trans ⟨fun ⟨n, z1, z2⟩ => ⟨n, z1, (hP n z1).mp z2⟩, fun ⟨n, z1, z2⟩ => ⟨n, z1, (hP n z1).mpr z2⟩⟩) (e2.trans (SidS_P hP))
      constructor
      · rintro ⟨s, p, z1, z2⟩
        have hs := z1.1
        have hp := z1.2.1
        have d1 : (5 * s + p) / 5 = s := by omega
        have d2 : (5 * s + p) % 5 = p := by omega
        have hk : 5 * s + p < 160 := by omega
        refine ⟨5 * s + p, hk, (okc_Cel h hk).mpr (by rw [d1, d2]; exact z1), ?_⟩
        rw [(d5 _ hk).1, d1, d2, hpt p hp]
        exact (cellEq s p z1).mp z2
      · rintro ⟨j, z1, z2, z3⟩
        have hc := (okc_Cel h z1).mp z2
        rw [(d5 _ z1).1, hpt _ (by omega)] at z3
        exact ⟨j / 5, j % 5, hc, (cellEq _ _ hc).mpr z3⟩
end MOST
