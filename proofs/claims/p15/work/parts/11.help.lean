/-! ===== words for contracts ===== -/
noncomputable def bi (p : Prop) : Int32 := @ite Int32 p (Classical.propDecidable p) 1 0
theorem bi_t {p : Prop} (h : p) : bi p = 1 := if_pos h
theorem bi_f {p : Prop} (h : ¬ p) : bi p = 0 := if_neg h
theorem bi_01 (p : Prop) : bi p = 0 ∨ bi p = 1 := by
  rcases Classical.em p with h | h
  · exact Or.inr (bi_t h)
  · exact Or.inl (bi_f h)
theorem bi_c {p q : Prop} (h : p ↔ q) : bi p = bi q := by rw [propext h]
def pv (E : Int32) (M : Mem) : Option Value → Mem → Prop := fun r M2 => r = some (.int E) ∧ M2 = M
def pl (E : Int64) (M : Mem) : Option Value → Mem → Prop := fun r M2 => r = some (.long E) ∧ M2 = M
def pn (P : Mem → Prop) : Option Value → Mem → Prop := fun r M2 => r = none ∧ P M2
theorem pv1 {p : Prop} {M : Mem} (h : p) : pv (bi p) M (some (.int 1)) M := ⟨by rw [bi_t h], rfl⟩
theorem pv0 {p : Prop} {M : Mem} (h : ¬ p) : pv (bi p) M (some (.int 0)) M := ⟨by rw [bi_f h], rfl⟩
theorem pve {x y : Int32} {M : Mem} (h : x = y) : pv y M (some (.int x)) M := ⟨by rw [h], rfl⟩
theorem ple {x y : Int64} {M : Mem} (h : x = y) : pl y M (some (.long x)) M := ⟨by rw [h], rfl⟩
def rov (o n : Nat) : Int32 := match ro0 o with
  | some (_, f) => f n
  | none => 0
def f9 (x : Int32) : Prop := -9 ≤ x ∧ x ≤ 9
def f99 (x : Int32) : Prop := -99 ≤ x ∧ x ≤ 99
theorem bitS : ∀ s, s < 32 → ∀ k, k < 5 → ((nI s >>> (nI k &&& 31)) &&& 1) = if s.testBit k = true then 1 else 0 := by decide +kernel
theorem bitS1 {s k : Nat} (hs : s < 32) (hk : k < 5) : ((nI s >>> (nI k &&& 31)) &&& 1) = 1 ↔ s.testBit k = true := by
  rw [bitS s hs k hk]
  split <;> simp_all
theorem pow5 : ∀ k, k < 5 → ((1 : Int32) <<< (nI k &&& 31)) = nI (2 ^ k) := by decide +kernel
def grp (p a : Nat) : Nat := match p, a with
  | 0, 1 => 1
  | 0, 2 => 2
  | 1, 2 => 1
  | 2, 1 => 1
  | 3, 1 => 1
  | 3, 2 => 1
  | _, _ => 0
/-- in the p-th way of being equal, the numbers a and b are -/
def Eq3 (p a b : Nat) : Prop := grp p a = grp p b
theorem grp_ok : ∀ p, p < 5 → ∀ a, a < 3 → rov 102 (p * 3 + a) = nI (grp p a) := by decide +kernel
theorem grp_lt : ∀ p, p < 5 → ∀ a, a < 3 → grp p a < 3 := by decide +kernel
theorem nI_inj {a b : Nat} (ha : a < 2 ^ 31) (hb : b < 2 ^ 31) (h : nI a = nI b) : a = b := (nI_eq ha hb).mp h
/-- literals: 2 k is atom k, 2 k + 1 that it does not hold -/
def HL (s m : Nat) : Prop := (s.testBit (m / 2) = true) ↔ m % 2 = 0
theorem lit_h : ∀ m, m < 10 → (nI m >>> (1 &&& 31)) = nI (m / 2) ∧ (nI m &&& 1) = nI (m % 2) := by decide +kernel
theorem HL_iff {s m : Nat} (hs : s < 32) (hm : m < 10) : HL s m ↔ (((((nI s) >>> (((nI m) >>> (1 &&& 31)) &&& 31)) &&& 1) = 1) ↔ ((nI m) &&& 1) = 0) := by
  have h1 : ∀ m, m < 10 → ((nI (m % 2)) = 0 ↔ m % 2 = 0) := by decide +kernel
  rw [(lit_h m hm).1, (lit_h m hm).2, bitS1 hs (by omega), h1 m hm]
  rfl
theorem down {P : Nat → Prop} (N : Nat) (h : ∀ k, k ≤ N → (k < N → P (k + 1)) → P k) : ∀ k, k ≤ N → P k := by
  have key : ∀ r k, k + r = N → P k := by
    intro r
    induction r with
    | zero => intro k hk; exact h k (by omega) (fun q => by omega)
    | succ r ih => intro k hk; exact h k (by omega) (fun _ => ih (k + 1) (by omega))
  exact fun k hk => key (N - k) k (by omega)
theorem go_as {l : Launch} {ro : RO} {Y : MT} {n n' : Nat} {M M' : Mem} {pc : Nat} {L L' st st' : List Value} {Post : Option Value → Mem → Prop} (h : Go l ro Y n M pc L st n' Post) (eM : M' = M) (eL : L' = L) (es : st' = st) : Go l ro Y n M' pc L' st' n' Post := by
  subst eM; subst eL; subst es
  exact h
def pm (M1 : Mem) : Option Value → Mem → Prop := fun r M2 => r = none ∧ M2 = M1
theorem nx_eq {x y : Int32} {a b : Nat} (hx : x = nI a) (hy : y = nI b) (ha : a < 2 ^ 31) (hb : b < 2 ^ 31) : x = y ↔ a = b := by rw [hx, hy]; exact nI_eq ha hb
theorem nx_lt {x y : Int32} {a b : Nat} (hx : x = nI a) (hy : y = nI b) (ha : a < 2 ^ 31) (hb : b < 2 ^ 31) : x < y ↔ a < b := by rw [hx, hy]; exact nI_ltI ha hb
theorem nx_le {x y : Int32} {a b : Nat} (hx : x = nI a) (hy : y = nI b) (ha : a < 2 ^ 31) (hb : b < 2 ^ 31) : x ≤ y ↔ a ≤ b := by rw [hx, hy]; exact nI_leI ha hb
theorem Eq3_iff {p a b : Nat} (hp : p < 5) (ha : a < 3) (hb : b < 3) : Eq3 p a b ↔ rov 102 (p * 3 + a) = rov 102 (p * 3 + b) := by
  rw [grp_ok p hp a ha, grp_ok p hp b hb, nI_eq (Nat.lt_trans (grp_lt p hp a ha) (by decide)) (Nat.lt_trans (grp_lt p hp b hb) (by decide))]
  rfl
