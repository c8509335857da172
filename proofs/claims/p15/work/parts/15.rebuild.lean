/-- the atoms' planes, copied ahead of the others -/
def cpy (A : Nat → Nat → Int32) : Nat → (Nat → Nat → Int32)
  | 0 => A
  | k + 1 => u2 (u2 (u2 (u2 (cpy A k) 13 k (A 3 k)) 14 k (A 4 k)) 15 k (A 5 k)) 16 k (A 6 k)
theorem cpy_o {A : Nat → Nat → Int32} {o : Nat} (h : o ≠ 13 ∧ o ≠ 14 ∧ o ≠ 15 ∧ o ≠ 16) (k : Nat) : cpy A k o = A o := by
  induction k with
  | zero => rfl
  | succ k ih =>
    funext j
    simp only [cpy]
    rw [u2_o h.2.2.2, u2_o h.2.2.1, u2_o h.2.1, u2_o h.1, ih]
def tri : Nat → Nat
  | 0 => 0
  | k + 1 => tri k + k
def tet : Nat → Nat
  | 0 => 0
  | k + 1 => tet k + tri k
theorem tri_s (k : Nat) (h : 0 < k) : tri k = tri (k - 1) + (k - 1) := by
  cases k with
  | zero => omega
  | succ k => rfl
theorem tet_s (k : Nat) (h : 0 < k) : tet k = tet (k - 1) + tri (k - 1) := by
  cases k with
  | zero => omega
  | succ k => rfl
/-- the n-th corner is that of the planes p, q, r -/
def AtC (B A : Nat → Nat → Int32) (n p q r : Nat) : Prop := A 17 n = cx B p q r ∧ A 18 n = cy B p q r ∧ A 19 n = cz B p q r ∧ A 20 n = cw B p q r ∧ A 21 n = fsd B (cx B p q r) (cy B p q r) (cz B p q r) (cw B p q r) 8
/-- the corners' rows hold just the corners of the triples T of the planes of B; all else is as in B -/
def CI (T : Nat → Nat → Nat → Prop) (B A : Nat → Nat → Int32) (cnt : Nat) : Prop :=
  (∀ o, (o < 17 ∨ 21 < o) → o ≠ 12 → A o = B o) ∧ (∀ k, k ≠ 9 → A 12 k = B 12 k) ∧ A 12 9 = nI cnt ∧ (∀ p q r, T p q r → InB B p q r → ∃ n, n < cnt ∧ AtC B A n p q r) ∧ ∀ n, n < cnt → ∃ p q r, T p q r ∧ InB B p q r ∧ AtC B A n p q r
theorem CI.congr {T T2 : Nat → Nat → Nat → Prop} {B A : Nat → Nat → Int32} {cnt : Nat} (h : CI T B A cnt) (hT : ∀ p q r, T p q r ↔ T2 p q r) : CI T2 B A cnt :=
  ⟨h.1, h.2.1, h.2.2.1, fun p q r ht => h.2.2.2.1 p q r ((hT p q r).mpr ht), fun n hn => by
    obtain ⟨p, q, r, h1, h2⟩ := h.2.2.2.2 n hn
    exact ⟨p, q, r, (hT p q r).mp h1, h2⟩⟩
theorem CI.rows {T : Nat → Nat → Nat → Prop} {B A : Nat → Nat → Int32} {cnt : Nat} (h : CI T B A cnt) (p q r : Nat) : (D0 A p q r = D0 B p q r ∧ cx A p q r = cx B p q r ∧ cy A p q r = cy B p q r ∧ cz A p q r = cz B p q r ∧ cw A p q r = cw B p q r) ∧ (InB A p q r ↔ InB B p q r) ∧ ∀ x y z w t, fsd A x y z w t = fsd B x y z w t := by
  have h13 := h.1 13 (by omega) (by omega)
  have h14 := h.1 14 (by omega) (by omega)
  have h15 := h.1 15 (by omega) (by omega)
  have h16 := h.1 16 (by omega) (by omega)
  have e0 : D0 A p q r = D0 B p q r := by unfold D0; rw [h13, h14, h15]
  have e1 : cx A p q r = cx B p q r := by unfold cx; rw [e0, h14, h15, h16]
  have e2 : cy A p q r = cy B p q r := by unfold cy; rw [e0, h13, h15, h16]
  have e3 : cz A p q r = cz B p q r := by unfold cz; rw [e0, h13, h14, h16]
  have e4 : cw A p q r = cw B p q r := by unfold cw; rw [e0]
  exact ⟨⟨e0, e1, e2, e3, e4⟩, by unfold InB; rw [e0, e1, e2, e3, e4], fsd_c h13 h14 h15 h16⟩
theorem kp_get {A : Nat → Nat → Int32} {cnt : Nat} {x y z w : Int32} : kp A cnt x y z w 17 cnt = x ∧ kp A cnt x y z w 18 cnt = y ∧ kp A cnt x y z w 19 cnt = z ∧ kp A cnt x y z w 20 cnt = w ∧ kp A cnt x y z w 21 cnt = fsd A x y z w 8 ∧ kp A cnt x y z w 12 9 = A 12 9 + 1 := by
  refine ⟨?_, ?_, ?_, ?_, ?_, ?_⟩ <;> simp [kp, u2]
theorem kp_old {A : Nat → Nat → Int32} {cnt : Nat} {x y z w : Int32} {o k : Nat} (h : (o < 17 ∨ 21 < o) ∧ o ≠ 12 ∨ o = 12 ∧ k ≠ 9 ∨ (17 ≤ o ∧ o ≤ 21) ∧ k ≠ cnt) : kp A cnt x y z w o k = A o k := by
  unfold kp u2
  repeat (first | rw [if_neg (by omega)])
theorem CI.add {T : Nat → Nat → Nat → Prop} {B A : Nat → Nat → Int32} {cnt p q r : Nat} (h : CI T B A cnt) (hi : InB B p q r) : CI (fun p2 q2 r2 => T p2 q2 r2 ∨ (p2 = p ∧ q2 = q ∧ r2 = r)) B (kp A cnt (cx A p q r) (cy A p q r) (cz A p q r) (cw A p q r)) (cnt + 1) := by
  obtain ⟨⟨e0, e1, e2, e3, e4⟩, ei, ef⟩ := h.rows p q r
  obtain ⟨k1, k2, k3, k4, k5, k6⟩ := kp_get (A := A) (cnt := cnt) (x := cx A p q r) (y := cy A p q r) (z := cz A p q r) (w := cw A p q r)
  have hnew : AtC B (kp A cnt (cx A p q r) (cy A p q r) (cz A p q r) (cw A p q r)) cnt p q r := by
    refine ⟨by rw [k1, e1], by rw [k2, e2], by rw [k3, e3], by rw [k4, e4], ?_⟩
    rw [k5, ef, e1, e2, e3, e4]
  have hold : ∀ n p2 q2 r2, n < cnt → AtC B A n p2 q2 r2 → AtC B (kp A cnt (cx A p q r) (cy A p q r) (cz A p q r) (cw A p q r)) n p2 q2 r2 := by
    intro n p2 q2 r2 hn hat
    refine ⟨?_, ?_, ?_, ?_, ?_⟩
    · rw [kp_old (by omega)]; exact hat.1
    · rw [kp_old (by omega)]; exact hat.2.1
    · rw [kp_old (by omega)]; exact hat.2.2.1
    · rw [kp_old (by omega)]; exact hat.2.2.2.1
    · rw [kp_old (by omega)]; exact hat.2.2.2.2
  refine ⟨fun o ho ho2 => ?_, fun k hk => ?_, ?_, fun p2 q2 r2 ht hin => ?_, fun n hn => ?_⟩
  · funext k
    rw [kp_old (by omega), h.1 o ho ho2]
  · rw [kp_old (by omega), h.2.1 k hk]
  · rw [k6, h.2.2.1, nI_1]
  · rcases ht with ht | ⟨rfl, rfl, rfl⟩
    · obtain ⟨n, h1, h2⟩ := h.2.2.2.1 p2 q2 r2 ht hin
      exact ⟨n, by omega, hold n p2 q2 r2 h1 h2⟩
    · exact ⟨cnt, by omega, hnew⟩
  · by_cases e : n = cnt
    · subst e
      exact ⟨p, q, r, Or.inr ⟨rfl, rfl, rfl⟩, hi, hnew⟩
    · obtain ⟨p2, q2, r2, h1, h2, h3⟩ := h.2.2.2.2 n (by omega)
      exact ⟨p2, q2, r2, Or.inl h1, h2, hold n p2 q2 r2 (by omega) h3⟩
theorem CI.skip {T : Nat → Nat → Nat → Prop} {B A : Nat → Nat → Int32} {cnt p q r : Nat} (h : CI T B A cnt) (hi : ¬ InB B p q r) : CI (fun p2 q2 r2 => T p2 q2 r2 ∨ (p2 = p ∧ q2 = q ∧ r2 = r)) B A cnt := by
  refine ⟨h.1, h.2.1, h.2.2.1, fun p2 q2 r2 ht hin => ?_, fun n hn => ?_⟩
  · rcases ht with ht | ⟨rfl, rfl, rfl⟩
    · exact h.2.2.2.1 p2 q2 r2 ht hin
    · exact absurd hin hi
  · obtain ⟨p2, q2, r2, h1, h2⟩ := h.2.2.2.2 n hn
    exact ⟨p2, q2, r2, Or.inl h1, h2⟩
/-- the triples ahead of p, q, r -/
def LT3 (p q r : Nat) : Nat → Nat → Nat → Prop := fun p2 q2 r2 => (p2 < q2 ∧ q2 < r2 ∧ r2 < 14) ∧ (p2 < p ∨ p2 = p ∧ (q2 < q ∨ q2 = q ∧ r2 < r))

set_option maxRecDepth 100000 in
set_option maxHeartbeats 4000000 in
theorem lr_X3_rebuild (l : Launch) (A : Nat → Nat → Int32) (G : Nat → Nat → Int64) (B0 : Nat → Nat → Int32) (p q : Nat) (hp : p < 14) (hq : q < 14) (hpq : p < q) (hout : ∀ A2 cnt, CI (LT3 p (q + 1) 0) B0 A2 cnt → cnt + tet (13 - p) + tri (13 - q) ≤ 364 → ∀ j : Value, Go l ro0 mX3_rebuild 27 (A2, G, PF) 78 [.ref 12, .ref 1, .int (nI p), .int (nI (q + 1)), j] [] 27 (fun r M2 => r = none ∧ ∃ A2 cnt, M2 = (A2, G, PF) ∧ cnt ≤ 364 ∧ CI (LT3 14 0 0) B0 A2 cnt)) : ∀ r, r ≤ 14 → ∀ A2 cnt, CI (LT3 p q r) B0 A2 cnt → cnt + tet (13 - p) + tri (13 - q) + (14 - r) ≤ 364 → q < r → Go l ro0 mX3_rebuild 27 (A2, G, PF) 89 [.ref 12, .ref 1, .int (nI p), .int (nI q), .int (nI r)] [] 27 (fun r M2 => r = none ∧ ∃ A2 cnt, M2 = (A2, G, PF) ∧ cnt ≤ 364 ∧ CI (LT3 14 0 0) B0 A2 cnt) := by
  refine down 14 (fun r hr ih A2 cnt hCI hb hqr => ?_)
  refine go_blk (pc2 := 93) (L2 := [.ref 12, .ref 1, .int (nI p), .int (nI q), .int (nI r)]) (st2 := [.int 14, .int (nI r)]) (M2 := (A2, G, PF)) (hs2 := []) (C := True) [(.iload 4, 0, 0), (.bipush 14, 0, 0)] [] (by decide +kernel) rfl trivial ?_
  refine go_cmp (cnd := .ge) (off := 17) 110 (by decide +kernel) (by decide) (fun (c1 : 14 ≤ (nI r)) => ?_) (fun (c1 : ¬ 14 ≤ (nI r)) => ?_)
  · skip
    replace c1 : 14 ≤ r := (nx_le (a := 14) (b := r) rfl rfl (by omega) (by omega)).mp c1
    refine go_blk (pc2 := 113) (L2 := [.ref 12, .ref 1, .int (nI p), .int ((nI q) + 1), .int (nI r)]) (st2 := []) (M2 := (A2, G, PF)) (hs2 := []) (C := True) [(.iinc 3 1, 0, 0)] [] (by decide +kernel) rfl trivial ?_
    refine go_goto (off := -35) 78 (by decide +kernel) (by decide) ?_
    exact go_as (hout A2 cnt (hCI.congr (fun p2 q2 r2 => by unfold LT3; omega)) (by omega) (.int (nI r))) rfl (by simp only [nI_1]) rfl
  · skip
    replace c1 : ¬ 14 ≤ r := fun zz => c1 ((nx_le (a := 14) (b := r) rfl rfl (by omega) (by omega)).mpr zz)
    refine go_blk (pc2 := 101) (L2 := [.ref 12, .ref 1, .int (nI p), .int (nI q), .int (nI r)]) (st2 := [.int (nI r), .int (nI q), .int (nI p), .ref 12]) (M2 := (A2, G, PF)) (hs2 := []) (C := True) [(.aload_n 0, 0, 0), (.iload_n 2, 0, 0), (.iload_n 3, 0, 0), (.iload 4, 0, 0)] [] (by decide +kernel) rfl trivial ?_
    refine go_call (Y2 := mX3_meet) (n2 := 27) (st := []) [.ref 12] [.int (nI p), .int (nI q), .int (nI r)] ck_3_59 cwX3_meet rfl (by decide +kernel) rfl (fun h => absurd h (by decide)) (fun _ => ⟨12, rfl, by decide, rfl⟩) (Nat.le_of_ble_eq_true rfl) (Or.inl rfl) (fun _ _ _ h => h) (s_X3_meet l A2 G p q r (by omega) (by omega) (by omega) cnt hCI.2.2.1 (by omega)) (fun v M2 hp2 => ?_)
    obtain ⟨rfl, ⟨hi, rfl⟩ | ⟨hi, rfl⟩⟩ := hp2
    · show Go l ro0 mX3_rebuild 27 ((kp A2 cnt (cx A2 p q r) (cy A2 p q r) (cz A2 p q r) (cw A2 p q r)), G, PF) 104 [.ref 12, .ref 1, .int (nI p), .int (nI q), .int (nI r)] [] 27 _
      refine go_blk (pc2 := 107) (L2 := [.ref 12, .ref 1, .int (nI p), .int (nI q), .int ((nI r) + 1)]) (st2 := []) (M2 := ((kp A2 cnt (cx A2 p q r) (cy A2 p q r) (cz A2 p q r) (cw A2 p q r)), G, PF)) (hs2 := []) (C := True) [(.iinc 4 1, 0, 0)] [] (by decide +kernel) rfl trivial ?_
      refine go_goto (off := -18) 89 (by decide +kernel) (by decide) ?_
      exact go_as (ih (by omega) _ (cnt + 1) (((hCI.add ((hCI.rows p q r).2.1.mp hi)).congr (fun p2 q2 r2 => by unfold LT3; omega))) (by omega) (by omega)) rfl (by simp only [nI_1]) rfl
    · show Go l ro0 mX3_rebuild 27 (A2, G, PF) 104 [.ref 12, .ref 1, .int (nI p), .int (nI q), .int (nI r)] [] 27 _
      refine go_blk (pc2 := 107) (L2 := [.ref 12, .ref 1, .int (nI p), .int (nI q), .int ((nI r) + 1)]) (st2 := []) (M2 := (A2, G, PF)) (hs2 := []) (C := True) [(.iinc 4 1, 0, 0)] [] (by decide +kernel) rfl trivial ?_
      refine go_goto (off := -18) 89 (by decide +kernel) (by decide) ?_
      exact go_as (ih (by omega) A2 cnt (((hCI.skip (fun z => hi ((hCI.rows p q r).2.1.mpr z))).congr (fun p2 q2 r2 => by unfold LT3; omega))) (by omega) (by omega)) rfl (by simp only [nI_1]) rfl
set_option maxRecDepth 100000 in
set_option maxHeartbeats 4000000 in
theorem lq_X3_rebuild (l : Launch) (A : Nat → Nat → Int32) (G : Nat → Nat → Int64) (B0 : Nat → Nat → Int32) (p : Nat) (hp : p < 14) (hout : ∀ A2 cnt, CI (LT3 (p + 1) 0 0) B0 A2 cnt → cnt + tet (13 - p) ≤ 364 → ∀ j1 j2 : Value, Go l ro0 mX3_rebuild 27 (A2, G, PF) 68 [.ref 12, .ref 1, .int (nI (p + 1)), j1, j2] [] 27 (fun r M2 => r = none ∧ ∃ A2 cnt, M2 = (A2, G, PF) ∧ cnt ≤ 364 ∧ CI (LT3 14 0 0) B0 A2 cnt)) : ∀ q, q ≤ 14 → ∀ A2 cnt, CI (LT3 p q 0) B0 A2 cnt → cnt + tet (13 - p) + tri (14 - q) ≤ 364 → p < q → ∀ j : Value, Go l ro0 mX3_rebuild 27 (A2, G, PF) 78 [.ref 12, .ref 1, .int (nI p), .int (nI q), j] [] 27 (fun r M2 => r = none ∧ ∃ A2 cnt, M2 = (A2, G, PF) ∧ cnt ≤ 364 ∧ CI (LT3 14 0 0) B0 A2 cnt) := by
  refine down 14 (fun q hq ih A2 cnt hCI hb hpq j => ?_)
  refine go_blk (pc2 := 81) (L2 := [.ref 12, .ref 1, .int (nI p), .int (nI q), j]) (st2 := [.int 14, .int (nI q)]) (M2 := (A2, G, PF)) (hs2 := []) (C := True) [(.iload_n 3, 0, 0), (.bipush 14, 0, 0)] [] (by decide +kernel) rfl trivial ?_
  refine go_cmp (cnd := .ge) (off := 35) 116 (by decide +kernel) (by decide) (fun (c1 : 14 ≤ (nI q)) => ?_) (fun (c1 : ¬ 14 ≤ (nI q)) => ?_)
  · skip
    replace c1 : 14 ≤ q := (nx_le (a := 14) (b := q) rfl rfl (by omega) (by omega)).mp c1
    refine go_blk (pc2 := 119) (L2 := [.ref 12, .ref 1, .int ((nI p) + 1), .int (nI q), j]) (st2 := []) (M2 := (A2, G, PF)) (hs2 := []) (C := True) [(.iinc 2 1, 0, 0)] [] (by decide +kernel) rfl trivial ?_
    refine go_goto (off := -51) 68 (by decide +kernel) (by decide) ?_
    exact go_as (hout A2 cnt (hCI.congr (fun p2 q2 r2 => by unfold LT3; omega)) (by omega) (.int (nI q)) (j)) rfl (by simp only [nI_1]) rfl
  · skip
    replace c1 : ¬ 14 ≤ q := fun zz => c1 ((nx_le (a := 14) (b := q) rfl rfl (by omega) (by omega)).mpr zz)
    refine go_blk (pc2 := 89) (L2 := [.ref 12, .ref 1, .int (nI p), .int (nI q), .int ((nI q) + 1)]) (st2 := []) (M2 := (A2, G, PF)) (hs2 := []) (C := True) [(.iload_n 3, 0, 0), (.iconst 1, 0, 0), (.iadd, 0, 0), (.istore 4, 0, 0)] [] (by decide +kernel) rfl trivial ?_
    exact go_as (lr_X3_rebuild l A G B0 p q (by omega) (by omega) (by omega) (fun A3 c3 h3 h4 j3 => ih (by omega) A3 c3 h3 (by rw [show 14 - (q + 1) = 13 - q by omega]; exact h4) (by omega) j3) (q + 1) (by omega) A2 cnt (hCI.congr (fun p2 q2 r2 => by unfold LT3; omega)) (by have := tri_s (14 - q) (by omega); rw [show 14 - q - 1 = 13 - q by omega] at this; omega) (by omega)) rfl (by simp only [nI_1]) rfl
set_option maxRecDepth 100000 in
set_option maxHeartbeats 4000000 in
theorem lp_X3_rebuild (l : Launch) (A : Nat → Nat → Int32) (G : Nat → Nat → Int64) (B0 : Nat → Nat → Int32) : ∀ p, p ≤ 14 → ∀ A2 cnt, CI (LT3 p 0 0) B0 A2 cnt → cnt + tet (14 - p) ≤ 364 → ∀ j1 j2 : Value, Go l ro0 mX3_rebuild 27 (A2, G, PF) 68 [.ref 12, .ref 1, .int (nI p), j1, j2] [] 27 (fun r M2 => r = none ∧ ∃ A2 cnt, M2 = (A2, G, PF) ∧ cnt ≤ 364 ∧ CI (LT3 14 0 0) B0 A2 cnt) := by
  refine down 14 (fun p hp ih A2 cnt hCI hb j1 j2 => ?_)
  refine go_blk (pc2 := 71) (L2 := [.ref 12, .ref 1, .int (nI p), j1, j2]) (st2 := [.int 14, .int (nI p)]) (M2 := (A2, G, PF)) (hs2 := []) (C := True) [(.iload_n 2, 0, 0), (.bipush 14, 0, 0)] [] (by decide +kernel) rfl trivial ?_
  refine go_cmp (cnd := .ge) (off := 51) 122 (by decide +kernel) (by decide) (fun (c1 : 14 ≤ (nI p)) => ?_) (fun (c1 : ¬ 14 ≤ (nI p)) => ?_)
  · skip
    replace c1 : 14 ≤ p := (nx_le (a := 14) (b := p) rfl rfl (by omega) (by omega)).mp c1
    exact go_retv (by decide +kernel) rfl (⟨rfl, A2, cnt, rfl, by omega, hCI.congr (fun p2 q2 r2 => by unfold LT3; omega)⟩)
  · skip
    replace c1 : ¬ 14 ≤ p := fun zz => c1 ((nx_le (a := 14) (b := p) rfl rfl (by omega) (by omega)).mpr zz)
    refine go_blk (pc2 := 78) (L2 := [.ref 12, .ref 1, .int (nI p), .int ((nI p) + 1), j2]) (st2 := []) (M2 := (A2, G, PF)) (hs2 := []) (C := True) [(.iload_n 2, 0, 0), (.iconst 1, 0, 0), (.iadd, 0, 0), (.istore_n 3, 0, 0)] [] (by decide +kernel) rfl trivial ?_
    exact go_as (lq_X3_rebuild l A G B0 p (by omega) (fun A3 c3 h3 h4 j1 j2 => ih (by omega) A3 c3 h3 (by rw [show 14 - (p + 1) = 13 - p by omega]; exact h4) j1 j2) (p + 1) (by omega) A2 cnt (hCI.congr (fun p2 q2 r2 => by unfold LT3; omega)) (by have := tet_s (14 - p) (by omega); rw [show 14 - p - 1 = 13 - p by omega] at this; rw [show 14 - (p + 1) = 13 - p by omega]; omega) (by omega) (j2)) rfl (by simp only [nI_1]) rfl
set_option maxRecDepth 100000 in
set_option maxHeartbeats 4000000 in
theorem lc_X3_rebuild (l : Launch) (A : Nat → Nat → Int32) (G : Nat → Nat → Int64) : ∀ k, k ≤ 5 → ∀ j1 j2 : Value, Go l ro0 mX3_rebuild 27 (cpy A k, G, PF) 2 [.ref 12, .ref 1, .int (nI k), j1, j2] [] 27 (fun r M2 => r = none ∧ ∃ A2 cnt, M2 = (A2, G, PF) ∧ cnt ≤ 364 ∧ CI (LT3 14 0 0) (u2 (cpy A 5) 12 9 0) A2 cnt) := by
  refine down 5 (fun k hk ih j1 j2 => ?_)
  refine go_blk (pc2 := 4) (L2 := [.ref 12, .ref 1, .int (nI k), j1, j2]) (st2 := [.int 5, .int (nI k)]) (M2 := ((cpy A k), G, PF)) (hs2 := []) (C := True) [(.iload_n 2, 0, 0), (.iconst 5, 0, 0)] [] (by decide +kernel) rfl trivial ?_
  refine go_cmp (cnd := .ge) (off := 57) 61 (by decide +kernel) (by decide) (fun (c1 : 5 ≤ (nI k)) => ?_) (fun (c1 : ¬ 5 ≤ (nI k)) => ?_)
  · skip
    replace c1 : 5 ≤ k := (nx_le (a := 5) (b := k) rfl rfl (by omega) (by omega)).mp c1
    refine go_blk (pc2 := 68) (L2 := [.ref 12, .ref 1, .int 0, j1, j2]) (st2 := []) (M2 := ((u2 (cpy A k) 12 9 0), G, PF)) (hs2 := []) (C := True) [(.aload_n 0, 0, 0), (.iconst 0, 0, 0), (.putfield 39, 3, 9), (.iconst 0, 0, 0), (.istore_n 2, 0, 0)] [] (by decide +kernel) rfl trivial ?_
    exact go_as (lp_X3_rebuild l A G (u2 (cpy A 5) 12 9 0) 0 (by omega) _ 0 ⟨fun _ _ _ => rfl, fun _ _ => rfl, rfl, fun p2 q2 r2 h => absurd h (by unfold LT3; omega), fun n hn => absurd hn (by omega)⟩ (by decide) (j1) (j2)) (by rw [show k = 5 by omega]) rfl rfl
  · skip
    replace c1 : ¬ 5 ≤ k := fun zz => c1 ((nx_le (a := 5) (b := k) rfl rfl (by omega) (by omega)).mpr zz)
    refine go_blk (pc2 := 58) (L2 := [.ref 12, .ref 1, .int ((nI k) + 1), j1, j2]) (st2 := []) (M2 := ((u2 (u2 (u2 (u2 (cpy A k) 13 k ((cpy A k) 3 k)) 14 k ((cpy A k) 4 k)) 15 k ((cpy A k) 5 k)) 16 k ((cpy A k) 6 k)), G, PF)) (hs2 := []) (C := ((nI k) = nI k ∧ k < 5) ∧ ((nI k) = nI k ∧ k < 14) ∧ ((nI k) = nI k ∧ k < 5) ∧ ((nI k) = nI k ∧ k < 14) ∧ ((nI k) = nI k ∧ k < 5) ∧ ((nI k) = nI k ∧ k < 14) ∧ ((nI k) = nI k ∧ k < 5) ∧ ((nI k) = nI k ∧ k < 14) ∧ True) [(.aload_n 0, 0, 0), (.getfield 11, 3, 0), (.iload_n 2, 0, 0), (.aload_n 1, 0, 0), (.getfield 53, 0, 1), (.iload_n 2, 0, 0), (.iaload, 0, 0), (.iastore, 0, 0), (.aload_n 0, 0, 0), (.getfield 15, 3, 1), (.iload_n 2, 0, 0), (.aload_n 1, 0, 0), (.getfield 56, 0, 2), (.iload_n 2, 0, 0), (.iaload, 0, 0), (.iastore, 0, 0), (.aload_n 0, 0, 0), (.getfield 18, 3, 2), (.iload_n 2, 0, 0), (.aload_n 1, 0, 0), (.getfield 57, 0, 3), (.iload_n 2, 0, 0), (.iaload, 0, 0), (.iastore, 0, 0), (.aload_n 0, 0, 0), (.getfield 21, 3, 3), (.iload_n 2, 0, 0), (.aload_n 1, 0, 0), (.getfield 58, 0, 4), (.iload_n 2, 0, 0), (.iaload, 0, 0), (.iastore, 0, 0), (.iinc 2 1, 0, 0)] [k, k, k, k, k, k, k, k] (by decide +kernel) rfl ⟨⟨rfl, by omega⟩, ⟨rfl, by omega⟩, ⟨rfl, by omega⟩, ⟨rfl, by omega⟩, ⟨rfl, by omega⟩, ⟨rfl, by omega⟩, ⟨rfl, by omega⟩, ⟨rfl, by omega⟩, trivial⟩ ?_
    refine go_goto (off := -56) 2 (by decide +kernel) (by decide) ?_
    exact go_as (ih (by omega) j1 j2) (by simp only [cpy]; congr 1; simp only [cpy_o (A := A) (o := 3) (by omega) k, cpy_o (A := A) (o := 4) (by omega) k, cpy_o (A := A) (o := 5) (by omega) k, cpy_o (A := A) (o := 6) (by omega) k]) (by simp only [nI_1]) rfl
set_option maxRecDepth 100000 in
set_option maxHeartbeats 4000000 in
theorem s_X3_rebuild (l : Launch) (A : Nat → Nat → Int32) (G : Nat → Nat → Int64) : Sem l mX3_rebuild [.ref 12, .ref 1] 27 (A, G, PF) 27 (fun r M2 => r = none ∧ ∃ A2 cnt, M2 = (A2, G, PF) ∧ cnt ≤ 364 ∧ CI (LT3 14 0 0) (u2 (cpy A 5) 12 9 0) A2 cnt) := by
  refine sem_of_go (by decide) rfl (by decide) (by decide) rfl (Nat.le_of_ble_eq_true rfl) ?_
  show Go l ro0 mX3_rebuild 27 (A, G, PF) 0 [.ref 12, .ref 1, .null, .null, .null] [] 27 (fun r M2 => r = none ∧ ∃ A2 cnt, M2 = (A2, G, PF) ∧ cnt ≤ 364 ∧ CI (LT3 14 0 0) (u2 (cpy A 5) 12 9 0) A2 cnt)
  refine go_blk (pc2 := 2) (L2 := [.ref 12, .ref 1, .int 0, .null, .null]) (st2 := []) (M2 := (A, G, PF)) (hs2 := []) (C := True) [(.iconst 0, 0, 0), (.istore_n 2, 0, 0)] [] (by decide +kernel) rfl trivial ?_
  exact lc_X3_rebuild l A G 0 (by omega) _ _
