/-! ===== a question to both keeps what holds, and is answered alike ===== -/
section ASKS
variable {A A2 A3 : Nat → Nat → Int32} {G : Nat → Nat → Int64} {dm ncl lv cnt cnt2 : Nat}
theorem ask1 (h : Inv A G dm ncl lv) (hr : RfF A A2) : Bas A2 dm ncl lv ∧ Hkn A2 := by
  have e : ∀ o, 26 ≤ o → A2 o = A o := fun o q => hr.1 o (by omega) (by omega)
  refine ⟨(Keep.rf hr).bas h.1, h.2.2.1.c (fun k _ _ => by rw [e 27 (by omega)]) (e 28 (by omega)) (e 29 (by omega)) (fun o q1 q2 => e o (by omega)) (e 38 (by omega))⟩
theorem ask2 (hb : Bas A2 dm ncl lv) (hc : CacheI A2 cnt) (hm : MCache A3 cnt2) (hk : KnF A2 A3) (h6 : A3 27 6 = 1) : Bth A3 dm ncl cnt cnt2 ∧ Bas A3 dm ncl lv ∧ Hst A3 ∧ Hkn A3 := by
  have e : ∀ o, o < 27 → A3 o = A2 o := fun o q => hk.1 o (by omega) (by omega)
  have hc3 : CacheI A3 cnt := CacheI_c (fun o q1 q2 => e o (by omega)) (by rw [e 12 (by omega)]) (fun o q1 q2 => e o (by omega)) hc
  have hb3 := (Keep.kn hk).bas hb
  exact ⟨⟨hb3.1, hc3, hm⟩, hb3, fun _ => ⟨cnt, hc3⟩, fun _ => ⟨h6, cnt2, hm⟩⟩
theorem Wd_r {B : Nat → Nat → Int32} (h23 : B 23 = A 23) (h10 : B 10 = A 10) (s : Nat) : Wd B dm ncl s = Wd A dm ncl s := by
  unfold Wd SatC ClS LitH lit
  rw [h23, h10]
theorem cntw_r {B : Nat → Nat → Int32} (h23 : B 23 = A 23) (h10 : B 10 = A 10) (k : Nat) : cntw B dm ncl k = cntw A dm ncl k := by
  induction k with
  | zero => rfl
  | succ k ih =>
    have e := Wd_r (dm := dm) (ncl := ncl) h23 h10 k
    rcases Classical.em (Wd A dm ncl k) with q | q
    · rw [cntw_t q, cntw_t (by rw [e]; exact q), ih]
    · rw [cntw_f q, cntw_f (by rw [e]; exact q), ih]
theorem hv_r {B : Nat → Nat → Int32} (h23 : B 23 = A 23) (h10 : B 10 = A 10) (m : Nat) : hv B dm ncl m = hv A dm ncl m := by
  have e : Wd B dm ncl = Wd A dm ncl := funext fun s => Wd_r h23 h10 s
  unfold hv SW EW
  rw [e]
theorem pks_r {B : Nat → Nat → Int32} (h : ∀ o, 13 ≤ o → o ≤ 25 → B o = A o) (a b c : Int32) (cnt : Nat) (t : Tr) (s p : Nat) : pks B a b c cnt t s p = pks A a b c cnt t s p := by
  induction p with
  | zero => rfl
  | succ p ih =>
    have e : ∀ nd, ccf B a b c nd cnt = ccf A a b c nd cnt := fun nd => ccf_c (h 17 (by omega) (by omega)) (h 18 (by omega) (by omega)) (h 19 (by omega) (by omega)) (h 20 (by omega) (by omega)) (h 21 (by omega) (by omega)) a b c nd cnt
    rcases Classical.em (¬ A 23 (s * 5 + p) = 0) with q | q
    · rw [pks_t q, pks_t (by rw [h 23 (by omega) (by omega)]; exact q), ih, e, h 24 (by omega) (by omega), h 25 (by omega) (by omega)]
    · rw [pks_f q, pks_f (by rw [h 23 (by omega) (by omega)]; exact q), ih]
theorem pkw_r {B : Nat → Nat → Int32} (h : ∀ o, 13 ≤ o → o ≤ 25 → B o = A o) (h10 : B 10 = A 10) (a b c : Int32) (cnt k : Nat) : pkw B a b c dm ncl cnt k = pkw A a b c dm ncl cnt k := by
  induction k with
  | zero => rfl
  | succ k ih =>
    have e := Wd_r (dm := dm) (ncl := ncl) (h 23 (by omega) (by omega)) h10 k
    rcases Classical.em (Wd A dm ncl k) with q | q
    · rw [pkw_t q, pkw_t (by rw [e]; exact q), ih, pks_r h]
    · rw [pkw_f q, pkw_f (by rw [e]; exact q), ih]
/-- the answers that are read off both caches -/
theorem ask_worlds (hb : Bth A3 dm ncl cnt cnt2) (hk : KnF A2 A3) : nI (cntw A2 dm ncl 32) = nI (cntM A3 ncl cnt2 tru 32) := by
  rw [← hb.cnts 32 (Nat.le_refl _), cntw_r (A := A2) (B := A3) (hk.1 23 (by omega) (by omega)) (hk.1 10 (by omega) (by omega))]
theorem ask_holds (hb : Bth A3 dm ncl cnt cnt2) (hk : KnF A2 A3) (m : Nat) : hv A2 dm ncl m = hvMi A3 ncl cnt2 m := by
  rw [← hb.hol m, hv_r (A := A2) (B := A3) (hk.1 23 (by omega) (by omega)) (hk.1 10 (by omega) (by omega))]
theorem ask_world (hb : Bth A3 dm ncl cnt cnt2) (hk : KnF A2 A3) {x : Int32} {m : Nat} (hm : m < 32) (hx : x &&& nI dm = nI m) : bi (∃ m, m < 32 ∧ x &&& nI dm = nI m ∧ Wd A2 dm ncl m) = bi (WdM A3 ncl m cnt2) := by
  apply bi_c
  rw [← hb.wd hm, Wd_r (A := A2) (B := A3) (hk.1 23 (by omega) (by omega)) (hk.1 10 (by omega) (by omega))]
  constructor
  · rintro ⟨m2, h1, h2, h3⟩
    rw [nI_inj (show m < 2 ^ 31 by omega) (by omega) (hx.symm.trans h2)]
    exact h3
  · exact fun h => ⟨m, hm, hx, h⟩
theorem div64 {X k : Int} {g : Nat} (hg : 0 < g) (hX : X = k * g) (hb : X.natAbs ≤ 2361960) (hg2 : g ≤ 4374) : Int64.ofInt X / lN g = Int64.ofInt k := by
  have e1 : (Int64.ofInt X).toInt = X := s64 hb (by decide)
  have e2 : (lN g).toInt = g := by
    unfold lN
    rw [← Int64.ofInt_eq_ofNat]
    exact s64 (m := 4374) (by omega) (by decide)
  apply Int64.toInt_inj.mp
  have e3 : X.tdiv (g : Int) = k := by rw [hX]; exact Int.mul_tdiv_cancel _ (by omega)
  rw [Int64.toInt_div, e1, e2, e3, Int64.toInt_ofInt]
  try rfl
theorem red64 {a b c : Int32} (hf : f9 a ∧ f9 b ∧ f9 c) {q r : Crn} (hq : CB q) (hr : CB r) (h1 : lq a b c q r) (h2 : lq a b c r q) : N6 a b c q / lN ((nm a b c q).natAbs.gcd (dn q).toNat) = N6 a b c r / lN ((nm a b c r).natAbs.gcd (dn r).toNat) ∧ W6 q / lN ((nm a b c q).natAbs.gcd (dn q).toNat) = W6 r / lN ((nm a b c r).natAbs.gcd (dn r).toNat) := by
  have bq := nm_b hf hq
  have br := nm_b hf hr
  have q1 := hq.1
  have q2 := hq.2.1
  have r1 := hr.1
  have r2 := hr.2.1
  have e : nm a b c q * ((dn r).toNat : Int) = nm a b c r * ((dn q).toNat : Int) := by
    rw [show ((dn r).toNat : Int) = dn r by omega, show ((dn q).toNat : Int) = dn q by omega]
    exact Int.le_antisymm h1 h2
  obtain ⟨z1, z2⟩ := red_eq (u := (dn q).toNat) (v := (dn r).toNat) (by omega) (by omega) e
  have gq : 0 < (nm a b c q).natAbs.gcd (dn q).toNat := Nat.gcd_pos_of_pos_right _ (by omega)
  have gr : 0 < (nm a b c r).natAbs.gcd (dn r).toNat := Nat.gcd_pos_of_pos_right _ (by omega)
  have gq2 : (nm a b c q).natAbs.gcd (dn q).toNat ≤ (dn q).toNat := Nat.gcd_le_right _ (by omega)
  have gr2 : (nm a b c r).natAbs.gcd (dn r).toNat ≤ (dn r).toNat := Nat.gcd_le_right _ (by omega)
  have dq : (((nm a b c q).natAbs.gcd (dn q).toNat : Nat) : Int) ∣ nm a b c q := Int.ofNat_dvd_left.mpr (Nat.gcd_dvd_left _ _)
  have dr : (((nm a b c r).natAbs.gcd (dn r).toNat : Nat) : Int) ∣ nm a b c r := Int.ofNat_dvd_left.mpr (Nat.gcd_dvd_left _ _)
  constructor
  · unfold N6
    rw [div64 gq (Int.ediv_mul_cancel dq).symm bq (by omega), div64 gr (Int.ediv_mul_cancel dr).symm br (by omega), z1]
  · rw [W6_lN hq, W6_lN hr, pk_lDiv (by omega) gq (by omega), pk_lDiv (by omega) gr (by omega), z2]
theorem lN_inj {a b : Nat} (ha : a < 2 ^ 63) (hb : b < 2 ^ 63) (h : lN a = lN b) : a = b := (pk_lEQ ha hb).mp h
/-- what the class keeps of the largest value is the reduced fraction -/
theorem rd_of {a b c : Int32} (hf : f9 a ∧ f9 b ∧ f9 c) {q : Crn} (hq : CB q) {t : Tr} {h0 w0 : Nat} (hN : NumOk t h0 w0) (h1 : t.1 = N6 a b c q) (h2 : t.2.1 = W6 q) : rdo t h0 w0 = N6 a b c q / lN ((nm a b c q).natAbs.gcd (dn q).toNat) ∧ rdu t h0 w0 = W6 q / lN ((nm a b c q).natAbs.gcd (dn q).toNat) := by
  have bq := nm_b hf hq
  have q1 := hq.1
  have q2 := hq.2.1
  obtain ⟨n1, n2, n3, n4, n5⟩ := hN
  have e1 : h0 = (nm a b c q).natAbs := by
    rw [h1] at n1
    exact lN_inj (by omega) (by omega) (n1.symm.trans (abs64 bq).1)
  have e2 : w0 = (dn q).toNat := by
    rw [h2, W6_lN hq] at n4
    exact lN_inj (by omega) (by omega) n4.symm
  have gq : 0 < (nm a b c q).natAbs.gcd (dn q).toNat := Nat.gcd_pos_of_pos_right _ (by omega)
  have gq2 : (nm a b c q).natAbs.gcd (dn q).toNat ≤ (dn q).toNat := Nat.gcd_le_right _ (by omega)
  have hp := (lN_pos (w := (nm a b c q).natAbs.gcd (dn q).toNat) (by omega)).mpr gq
  unfold rdo rdu
  rw [e1, e2, if_pos hp, if_pos hp, h1, h2]
  exact ⟨rfl, rfl⟩
theorem rd_0 {h0 w0 : Nat} (hN : NumOk (0, 0, 0) h0 w0) : rdo (0, 0, 0) h0 w0 = 0 ∧ rdu (0, 0, 0) h0 w0 = 0 := by
  obtain ⟨n1, n2, n3, n4, n5⟩ := hN
  have e1 : h0 = 0 := lN_inj (by omega) (by decide) (n1.symm.trans (by decide))
  have e2 : w0 = 0 := lN_inj (by omega) (by decide) (n4.symm.trans (by decide))
  subst e1 e2
  decide
end ASKS
