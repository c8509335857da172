/-! ===== the greatest value over cells, as a fraction ===== -/
def geV (B : Nat → Nat → Int32) (a b c : Int32) (x w : Int) (n : Nat) : Prop := x * dn (cC B n) ≤ nm a b c (cC B n) * w
def Rx (B : Nat → Nat → Int32) (a b c : Int32) (cnt : Nat) (x w : Int) (s p : Nat) : Prop := (∃ n, n < cnt ∧ (Fts B s p n ∧ geV B a b c x w n)) ∧ SidS B s p (vC B) (fun n => Fts B s p n ∧ geV B a b c x w n) cnt
def Bd (x w : Int) : Prop := 0 < w ∧ w ≤ 4374 ∧ x.natAbs ≤ 2361960
def Mx (B : Nat → Nat → Int32) (a b c : Int32) (cnt : Nat) (K : Nat → Nat → Prop) (x w : Int) : Prop := Bd x w ∧ (∃ s p n, K s p ∧ n < cnt ∧ Fts B s p n ∧ geV B a b c x w n) ∧ ∀ s p n, K s p → n < cnt → Fts B s p n → nm a b c (cC B n) * w ≤ x * dn (cC B n)
def Tp (B : Nat → Nat → Int32) (a b c : Int32) (cnt : Nat) (K : Nat → Nat → Prop) (how : Int32) (up dw : Int64) : Prop :=
  ((∀ s p, K s p → ∀ n, n < cnt → ¬ Fts B s p n) ∧ how = 0 ∧ up = 0 ∧ dw = 0) ∨ ∃ x w, Mx B a b c cnt K x w ∧ up = Int64.ofInt x ∧ dw = Int64.ofInt w ∧ (how = 1 ∨ how = 2) ∧ (how = 2 ↔ ∃ s p, K s p ∧ Rx B a b c cnt x w s p)
theorem le_c {a b g : Int} (hg : 0 < g) : a * g ≤ b * g ↔ a ≤ b := ⟨fun h => Int.le_of_mul_le_mul_right h hg, fun h => Int.mul_le_mul_of_nonneg_right h (Int.le_of_lt hg)⟩
theorem Rx_c {B : Nat → Nat → Int32} {a b c : Int32} {cnt : Nat} {x w x2 w2 : Int} (h : ∀ n, n < cnt → (geV B a b c x w n ↔ geV B a b c x2 w2 n)) (s p : Nat) : Rx B a b c cnt x w s p ↔ Rx B a b c cnt x2 w2 s p := by
  unfold Rx
  refine and_congr ⟨fun ⟨n, h1, h2, h3⟩ => ⟨n, h1, h2, (h n h1).mp h3⟩, fun ⟨n, h1, h2, h3⟩ => ⟨n, h1, h2, (h n h1).mpr h3⟩⟩ (SidS_P fun n hn => and_congr Iff.rfl (h n hn))
theorem tp_of {B : Nat → Nat → Int32} {a b c : Int32} (hf : f9 a ∧ f9 b ∧ f9 c) {cnt : Nat} (hB : ∀ n, n < cnt → CB (cC B n)) {K : Nat → Nat → Prop} {t : Tr} (hP : PkI B a b c cnt K t) {h0 w0 : Nat} (hN : NumOk t h0 w0) : Tp B a b c cnt K (mov t) (rdo t h0 w0) (rdu t h0 w0) := by
  rcases hP with ⟨h1, rfl⟩ | ⟨m, g1, ⟨s, p, k0, k1⟩, g3, g4, g5, g6, g7⟩
  · obtain ⟨z1, z2⟩ := rd_0 hN
    exact Or.inl ⟨h1, by decide, z1, z2⟩
  · have bm := hB m g1
    obtain ⟨z1, z2⟩ := rd_of hf bm hN g3 g4
    have bq := nm_b hf bm
    have q1 := bm.1
    have q2 := bm.2.1
    obtain ⟨X, hX⟩ : ∃ X, X = nm a b c (cC B m) := ⟨_, rfl⟩
    obtain ⟨D, hD⟩ : ∃ D, D = dn (cC B m) := ⟨_, rfl⟩
    obtain ⟨g, hg⟩ : ∃ g, g = (nm a b c (cC B m)).natAbs.gcd (dn (cC B m)).toNat := ⟨_, rfl⟩
    have gq : 0 < g := by rw [hg]; exact Nat.gcd_pos_of_pos_right _ (by omega)
    have gq2 : g ≤ (dn (cC B m)).toNat := by rw [hg]; exact Nat.gcd_le_right _ (by omega)
    have dX : (g : Int) ∣ X := by rw [hg, hX]; exact Int.ofNat_dvd_left.mpr (Nat.gcd_dvd_left _ _)
    have dD : (g : Int) ∣ D := by
      have : (g : Int) ∣ ((dn (cC B m)).toNat : Int) := by rw [hg]; exact Int.ofNat_dvd.mpr (Nat.gcd_dvd_right _ _)
      rw [show ((dn (cC B m)).toNat : Int) = dn (cC B m) by omega, ← hD] at this
      exact this
    have eX : X = X / (g : Int) * g := (Int.ediv_mul_cancel dX).symm
    have eD : D = D / (g : Int) * g := (Int.ediv_mul_cancel dD).symm
    rw [← hg] at z1 z2
    unfold N6 at z1
    unfold W6 at z2
    rw [← hX] at z1 bq
    rw [← hD] at z2 q1 q2
    rw [← hD] at gq2
    rw [div64 gq eX bq (by omega)] at z1
    rw [div64 gq eD (by omega) (by omega)] at z2
    obtain ⟨x, hx⟩ : ∃ x, x = X / (g : Int) := ⟨_, rfl⟩
    obtain ⟨w, hw⟩ : ∃ w, w = D / (g : Int) := ⟨_, rfl⟩
    rw [← hx] at z1 eX
    rw [← hw] at z2 eD
    have hgp : (0 : Int) < (g : Int) := by omega
    have w0 : 0 < w := by
      refine Classical.byContradiction fun z => ?_
      have : w * (g : Int) ≤ 0 * (g : Int) := (le_c hgp).mpr (by omega)
      omega
    have w1 : w ≤ D := by
      have : w * 1 ≤ w * (g : Int) := Int.mul_le_mul_of_nonneg_left (by omega) (by omega)
      omega
    have xb : x.natAbs ≤ X.natAbs := by
      have e : X.natAbs = x.natAbs * g := by rw [eX, Int.natAbs_mul, Int.natAbs_natCast]
      rw [e]
      exact Nat.le_mul_of_pos_right _ gq
    have hge : ∀ n, geV B a b c x w n ↔ lq a b c (cC B m) (cC B n) := fun n => by
      unfold geV lq
      rw [← hX, ← hD, ← le_c hgp, show x * dn (cC B n) * (g : Int) = X * dn (cC B n) by rw [eX]; grind, show nm a b c (cC B n) * w * (g : Int) = nm a b c (cC B n) * D by rw [eD]; grind]
    refine Or.inr ⟨x, w, ⟨⟨w0, by omega, by omega⟩, ⟨s, p, m, k0, g1, k1, (hge m).mpr (lq_rf _ _ _ _)⟩, fun s p n e1 e2 e3 => ?_⟩, z1, z2, ?_, ?_⟩
    · have := g5 s p e1 n e2 e3
      unfold lq at this
      rw [← hX, ← hD] at this
      rw [← le_c hgp, show nm a b c (cC B n) * w * (g : Int) = nm a b c (cC B n) * D by rw [eD]; grind, show x * dn (cC B n) * (g : Int) = X * dn (cC B n) by rw [eX]; grind]
      exact this
    · unfold mov
      rw [if_pos (by rw [g4]; exact W6_pos bm)]
      split
      · exact Or.inl rfl
      · exact Or.inr rfl
    · have e1 : mov t = 2 ↔ t.2.2 = 1 := by
        unfold mov
        rw [if_pos (by rw [g4]; exact W6_pos bm)]
        rcases g6 with q | q
        · rw [if_pos q, q]
          exact ⟨fun z => absurd z (by decide), fun z => absurd z (by decide)⟩
        · rw [if_neg (by rw [q]; decide), q]
          exact ⟨fun _ => rfl, fun _ => rfl⟩
      rw [e1, g7]
      have e2 : ∀ s p, Rea B a b c cnt m s p ↔ Rx B a b c cnt x w s p := fun s p => by
        unfold Rea Rx
        exact and_congr ⟨fun ⟨n, h1, h2, h3⟩ => ⟨n, h1, h2, (hge n).mpr h3⟩, fun ⟨n, h1, h2, h3⟩ => ⟨n, h1, h2, (hge n).mp h3⟩⟩ (SidS_P fun n hn => and_congr Iff.rfl (hge n).symm)
      exact ⟨fun ⟨s, p, h1, h2⟩ => ⟨s, p, h1, (e2 s p).mp h2⟩, fun ⟨s, p, h1, h2⟩ => ⟨s, p, h1, (e2 s p).mpr h2⟩⟩
section MX
variable {B : Nat → Nat → Int32} {a b c : Int32} {cnt : Nat} {K K2 : Nat → Nat → Prop} {x w x2 w2 : Int}
theorem mx_z (hf : f9 a ∧ f9 b ∧ f9 c) (hB : ∀ n, n < cnt → CB (cC B n)) (h : Mx B a b c cnt K x w) {t : Tr} (hP : PkI B a b c cnt K t) {z : Int} (hz : z.natAbs ≤ 200) : t.1 ≤ Int64.ofInt z * t.2.1 ↔ x ≤ z * w := by
  obtain ⟨⟨b1, b2, b3⟩, ⟨s, p, n, e1, e2, e3, e4⟩, h3⟩ := h
  rcases hP with ⟨h1, -⟩ | ⟨m, g1, ⟨s1, p1, k0, k1⟩, g3, g4, g5, -, -⟩
  · exact absurd e3 (h1 s p e1 n e2)
  · have bm := hB m g1
    have bn := hB n e2
    have i1 := h3 s1 p1 m k0 g1 k1
    have i2 := g5 s p e1 n e2 e3
    have bq := nm_b hf bm
    have d1 := bm.1
    have d2 := bm.2.1
    have d3 := bn.1
    unfold geV at e4
    unfold lq at i2
    rw [g3, g4]
    unfold N6 W6
    rw [← Int64.ofInt_mul, Int64.le_iff_toInt_le, s64 bq (by decide)]
    generalize nm a b c (cC B m) = X at *
    generalize dn (cC B m) = D at *
    generalize nm a b c (cC B n) = Y at *
    generalize dn (cC B n) = E at *
    have zD : (z * D).natAbs ≤ 200 * 4374 := by
      rw [Int.natAbs_mul]
      exact Nat.mul_le_mul hz (by omega)
    rw [s64 zD (by decide)]
    have hE : x * D ≤ X * w := by
      rw [← le_c d3]
      have f1 : x * E * D ≤ Y * w * D := (le_c d1).mpr e4
      have f2 : Y * D * w ≤ X * E * w := (le_c b1).mpr i2
      have f3 : x * E * D = x * D * E := by grind
      have f4 : Y * w * D = Y * D * w := by grind
      have f5 : X * E * w = X * w * E := by grind
      omega
    have hq : X * w = x * D := by omega
    rw [← le_c b1, hq, show z * D * w = z * w * D by grind, le_c d1]
theorem mx_le (hB : ∀ n, n < cnt → CB (cC B n)) (h : Mx B a b c cnt K x w) (h2 : Mx B a b c cnt K2 x2 w2) (hs : ∀ s p, K2 s p → K s p) : x2 * w ≤ x * w2 := by
  obtain ⟨⟨b1, -, -⟩, -, h3⟩ := h
  obtain ⟨⟨c1, -, -⟩, ⟨s, p, n, e1, e2, e3, e4⟩, -⟩ := h2
  have d3 := (hB n e2).1
  have i1 := h3 s p n (hs s p e1) e2 e3
  unfold geV at e4
  generalize nm a b c (cC B n) = Y at *
  generalize dn (cC B n) = E at *
  rw [← le_c d3]
  have f1 : x2 * E * w ≤ Y * w2 * w := (le_c b1).mpr e4
  have f2 : Y * w * w2 ≤ x * E * w2 := (le_c c1).mpr i1
  have f3 : x2 * E * w = x2 * w * E := by grind
  have f4 : Y * w2 * w = Y * w * w2 := by grind
  have f5 : x * E * w2 = x * w2 * E := by grind
  omega
theorem ge_c (b1 : 0 < w) (c1 : 0 < w2) (e : x2 * w = x * w2) (n : Nat) : geV B a b c x2 w2 n ↔ geV B a b c x w n := by
  unfold geV
  generalize nm a b c (cC B n) = Y at *
  generalize dn (cC B n) = E at *
  rw [← le_c b1, ← le_c (a := x * E) c1, show x2 * E * w = x * w2 * E by rw [← e]; grind, show x * E * w2 = x * w2 * E by grind, show Y * w2 * w = Y * w * w2 by grind]
theorem mx_eq (hB : ∀ n, n < cnt → CB (cC B n)) (h : Mx B a b c cnt K x w) (h2 : Mx B a b c cnt K2 x2 w2) (hs : ∀ s p, K2 s p → K s p) : x2 * w = x * w2 ↔ ∃ s p n, K2 s p ∧ n < cnt ∧ Fts B s p n ∧ geV B a b c x w n := by
  have hle := mx_le hB h h2 hs
  constructor
  · intro e
    obtain ⟨s, p, n, e1, e2, e3, e4⟩ := h2.2.1
    exact ⟨s, p, n, e1, e2, e3, (ge_c h.1.1 h2.1.1 e n).mp e4⟩
  · rintro ⟨s, p, n, e1, e2, e3, e4⟩
    have i1 := h2.2.2 s p n e1 e2 e3
    have b1 := h.1.1
    have c1 := h2.1.1
    have d3 := (hB n e2).1
    unfold geV at e4
    generalize nm a b c (cC B n) = Y at *
    generalize dn (cC B n) = E at *
    have : x * w2 ≤ x2 * w := by
      rw [← le_c d3]
      have f1 : x * E * w2 ≤ Y * w * w2 := (le_c c1).mpr e4
      have f2 : Y * w2 * w ≤ x2 * E * w := (le_c b1).mpr i1
      have f3 : x * E * w2 = x * w2 * E := by grind
      have f4 : Y * w2 * w = Y * w * w2 := by grind
      have f5 : x2 * E * w = x2 * w * E := by grind
      omega
    omega
theorem cmp_I (hb : Bd x w) (hb2 : Bd x2 w2) : cmpI (Int64.ofInt x2) (Int64.ofInt w2) (Int64.ofInt x) (Int64.ofInt w) = if x2 * w < x * w2 then -1 else if x * w2 < x2 * w then 1 else 0 := by
  obtain ⟨b1, b2, b3⟩ := hb
  obtain ⟨c1, c2, c3⟩ := hb2
  have g1 : (x2 * w).natAbs ≤ 2361960 * 4374 := mulb c3 (by omega)
  have g2 : (x * w2).natAbs ≤ 2361960 * 4374 := mulb b3 (by omega)
  unfold cmpI
  simp only [← Int64.ofInt_mul, Int64.lt_iff_toInt_lt, s64 g1 (by decide), s64 g2 (by decide)]
/-- the value of the negated form, taken negative, isn't above -/
theorem mx_neg (hf : f9 a ∧ f9 b ∧ f9 c) (hB : ∀ n, n < cnt → CB (cC B n)) (h : Mx B a b c cnt K x w) (h2 : Mx B (-a) (-b) (-c) cnt K x2 w2) : (-x2) * w ≤ x * w2 := by
  obtain ⟨⟨b1, -, -⟩, -, h3⟩ := h
  obtain ⟨⟨c1, -, -⟩, ⟨s, p, n, e1, e2, e3, e4⟩, h5⟩ := h2
  have d3 := (hB n e2).1
  have i1 := h3 s p n e1 e2 e3
  have i2 := h5 s p n e1 e2 e3
  have ni : ∀ v : Int32, f9 v → (-v).toInt = - v.toInt := fun v hv => by
    have := f9_int hv
    rw [Int32.toInt_neg]
    apply Int.bmod_eq_of_le <;> omega
  have en : nm (-a) (-b) (-c) (cC B n) = - nm a b c (cC B n) := by
    unfold nm
    rw [ni a hf.1, ni b hf.2.1, ni c hf.2.2]
    grind
  rw [en] at i2
  generalize nm a b c (cC B n) = Y at *
  generalize dn (cC B n) = E at *
  rw [← le_c d3]
  have f1 : -Y * w2 * w ≤ x2 * E * w := (le_c b1).mpr i2
  have f2 : Y * w * w2 ≤ x * E * w2 := (le_c c1).mpr i1
  have f3 : -x2 * w * E = -(x2 * E * w) := by grind
  have f4 : -Y * w2 * w = -(Y * w * w2) := by grind
  have f5 : x * E * w2 = x * w2 * E := by grind
  omega
end MX
/-- floor and ceiling -/
def Flo (x w f : Int) : Prop := f * w ≤ x ∧ x < (f + 1) * w
theorem flo_b {x w f : Int} (hb : Bd x w) (h : Flo x w f) : f.natAbs ≤ 2361961 := by
  obtain ⟨b1, b2, b3⟩ := hb
  obtain ⟨h1, h2⟩ := h
  rcases Int.lt_or_le 0 f with q | q
  · have : f * 1 ≤ f * w := Int.mul_le_mul_of_nonneg_left (by omega) (by omega)
    omega
  · rcases Int.lt_or_le f 0 with q2 | q2
    · have : (-(f + 1)) * 1 ≤ (-(f + 1)) * w := Int.mul_le_mul_of_nonneg_left (by omega) (by omega)
      have e : (-(f + 1)) * w = -((f + 1) * w) := by grind
      omega
    · omega
theorem div_o {X w : Int} (h0 : 0 ≤ X) (hb : X.natAbs ≤ 2 ^ 30) (hw : 0 < w) (hw2 : w ≤ 4374) : Int64.ofInt X / Int64.ofInt w = Int64.ofInt (X / w) := by
  apply Int64.toInt_inj.mp
  have e1 : (Int64.ofInt X).toInt = X := s64 hb (by decide)
  have e2 : (Int64.ofInt w).toInt = w := s64 (m := 4374) (by omega) (by decide)
  rw [Int64.toInt_div, e1, e2, Int.tdiv_eq_ediv_of_nonneg h0, Int64.toInt_ofInt]
  try rfl
theorem o64_lt {x y : Int} (hx : x.natAbs ≤ 2 ^ 40) (hy : y.natAbs ≤ 2 ^ 40) : Int64.ofInt x < Int64.ofInt y ↔ x < y := by
  rw [Int64.lt_iff_toInt_lt, s64 hx (by decide), s64 hy (by decide)]
theorem o64_eq {x y : Int} (hx : x.natAbs ≤ 2 ^ 40) (hy : y.natAbs ≤ 2 ^ 40) : Int64.ofInt x = Int64.ofInt y ↔ x = y := by
  rw [← Int64.toInt_inj, s64 hx (by decide), s64 hy (by decide)]
theorem flo_1 {x w : Int} (hb : Bd x w) (h : ¬ Int64.ofInt x < 0) : ∃ f, Int64.ofInt x / Int64.ofInt w = Int64.ofInt f ∧ Flo x w f := by
  obtain ⟨b1, b2, b3⟩ := hb
  have h0 : 0 ≤ x := by
    have := (not_congr (o64_lt (x := x) (y := 0) (by omega) (by decide))).mp h
    omega
  refine ⟨x / w, div_o h0 (by omega) b1 b2, Int.ediv_mul_le x (by omega), ?_⟩
  exact Int.lt_ediv_add_one_mul_self x b1
theorem flo_2 {x w : Int} (hb : Bd x w) (h : Int64.ofInt x < 0) : ∃ f, -((((-(Int64.ofInt x)) + Int64.ofInt w) - 1) / Int64.ofInt w) = Int64.ofInt f ∧ Flo x w f := by
  obtain ⟨b1, b2, b3⟩ := hb
  have h0 : x < 0 := (o64_lt (x := x) (y := 0) (by omega) (by decide)).mp h
  have e : ((-(Int64.ofInt x)) + Int64.ofInt w) - 1 = Int64.ofInt (-x + w - 1) := by
    rw [Int64.ofInt_sub, Int64.ofInt_add, Int64.ofInt_neg]
    rfl
  have h1 := Int.ediv_mul_le (-x + w - 1) (b := w) (by omega)
  have h2 := Int.lt_ediv_add_one_mul_self (-x + w - 1) b1
  refine ⟨-((-x + w - 1) / w), ?_, ?_⟩
  · rw [e, div_o (by omega) (by omega) b1 b2, Int64.ofInt_neg]
  · generalize (-x + w - 1) / w = q at *
    have e1 : (q + 1) * w = q * w + w := by grind
    have e2 : -q * w = -(q * w) := by grind
    have e3 : (-q + 1) * w = -(q * w) + w := by grind
    constructor <;> omega
theorem flo_c {x w f : Int} (hb : Bd x w) (h : Flo x w f) : Int64.ofInt f * Int64.ofInt w = Int64.ofInt x ↔ f * w = x := by
  have hf := flo_b hb h
  obtain ⟨b1, b2, b3⟩ := hb
  have g1 : (f * w).natAbs ≤ 2361961 * 4374 := mulb hf (by omega)
  rw [← Int64.ofInt_mul]
  exact o64_eq (Nat.le_trans g1 (by decide)) (by omega)
theorem o32 {z : Int} (h : z.natAbs ≤ 2 ^ 30) : (Int64.ofInt z).toInt32 = Int32.ofInt z := by
  apply Int32.toInt_inj.mp
  rw [Int64.toInt_toInt32, s64 h (by decide), Int32.toInt_ofInt]
  try rfl
theorem o3264 {z : Int} (h : z.natAbs ≤ 2 ^ 30) : (Int32.ofInt z).toInt64 = Int64.ofInt z := by
  rw [to64, small_toInt h (by decide)]
theorem o32_f99 {z : Int} (h : -99 ≤ z ∧ z ≤ 99) : f99 (Int32.ofInt z) := by
  have e : (Int32.ofInt z).toInt = z := small_toInt (m := 99) (by omega) (by decide)
  constructor
  · rw [Int32.le_iff_toInt_le, e]
    exact h.1
  · rw [Int32.le_iff_toInt_le, e]
    exact h.2
