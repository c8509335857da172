/-! ===== the heap behind the machine's memory ===== -/
def fval (ad : Nat → Nat) (M : Mem) (ci o k : Nat) : Value := rv ad (rdf M ci o k)
def went (ad : Nat → Nat) (cA : Nat → ClassId) (M : Mem) (i : Nat) : Nat × va_E := (ad i, match shg SHL i with
  | some (.inl ci) => .inr (ci, (List.range (nf ci)).map (fval ad M ci i))
  | some (.inr (_, N)) => .inl (cA i, N, .inl (M.1 i))
  | none => .inr (0, []))
def wl (n : Nat) (ad : Nat → Nat) (cA : Nat → ClassId) (M : Mem) : va_W := (List.range n).map (went ad cA M)
theorem wl_at {n : Nat} {ad : Nat → Nat} {cA : Nat → ClassId} {M : Mem} {i : Nat} (h : i < n) : (wl n ad cA M)[i]? = some (went ad cA M i) := by simp [wl, h]
theorem wl_set {n : Nat} {ad : Nat → Nat} {cA : Nat → ClassId} {M M' : Mem} {i : Nat} {e : va_E} (he : went ad cA M' i = (ad i, e)) (ho : ∀ j, j ≠ i → went ad cA M' j = went ad cA M j) : (wl n ad cA M).set i (ad i, e) = wl n ad cA M' := by
  apply List.ext_getElem?
  intro j
  simp only [wl, List.getElem?_set, List.length_map, List.length_range, List.getElem?_map]
  by_cases hj : i = j
  · subst hj
    by_cases hn : i < n
    · simp [hn, he]
    · simp [hn]
  · rw [if_neg hj]
    by_cases hn : j < n
    · simp [hn, ho j (Ne.symm hj)]
    · simp [hn]
def bty (b : Bool) : FieldType := if b = true then .boolean else .int
def RelH (n : Nat) (M : Mem) (ad : Nat → Nat) (cA : Nat → ClassId) (D : va_G) (A : Nat → Prop) (H : Heap) (s : State) : Prop :=
  va_P D vwCl (wl n ad cA M) H ∧ va_D A (wl n ad cA M) ∧ va_K D vwCl [] s ∧ ∀ i, i < n → ∀ b N, shg SHL i = some (.inr (b, N)) → ArrOfT s (cA i) (bty b) ∧ va_RA s (cA i) (bty b)
theorem RelH.moved {n : Nat} {M : Mem} {ad : Nat → Nat} {cA : Nat → ClassId} {D : va_G} {A : Nat → Prop} {H : Heap} {u U : State} (hvm : u.vm.Alike U.vm) (h : RelH n M ad cA D A H u) : RelH n M ad cA D A H U :=
  ⟨h.1, h.2.1, h.2.2.1.moved hvm, fun i hi b N hb => ⟨arrOfT_moved hvm (h.2.2.2 i hi b N hb).1, (h.2.2.2 i hi b N hb).2.moved hvm⟩⟩
theorem RelH.kty {n : Nat} {M : Mem} {ad : Nat → Nat} {cA : Nat → ClassId} {D : va_G} {A : Nat → Prop} {H : Heap} {s : State} (h : RelH n M ad cA D A H s) {i : Nat} (hi : i < n) {b : Bool} {N : Nat} (hb : shg SHL i = some (.inr (b, N))) : va_K D vwCl [(cA i, bty b)] s :=
  ⟨h.2.2.1.1, fun k q hq => by
    have hk : k = 0 := by
      have := (List.getElem?_eq_some_iff.mp hq).1
      simp at this
      omega
    subst hk
    cases hq
    exact h.2.2.2 i hi b N hb⟩
theorem RelH.lt {n : Nat} {M : Mem} {ad : Nat → Nat} {cA : Nat → ClassId} {D : va_G} {A : Nat → Prop} {H : Heap} {s : State} (h : RelH n M ad cA D A H s) {i : Nat} (hi : i < n) : ad i < H.size := (h.1 i _ (wl_at hi)).lt
theorem RelH.inA {n : Nat} {M : Mem} {ad : Nat → Nat} {cA : Nat → ClassId} {D : va_G} {A : Nat → Prop} {H : Heap} {s : State} (h : RelH n M ad cA D A H s) {i : Nat} (hi : i < n) : A (ad i) := h.2.1.2 i _ (wl_at hi)
def ROok (ro : RO) (ad : Nat → Nat) (A : Nat → Prop) (s : State) : Prop := ∀ o N f, ro o = some (N, f) → N < 2 ^ 31 ∧ 39 ≤ o ∧ va_T .int (ad o) N (fun j => .int (f j)) A s s.heap
def Zok (ad : Nat → Nat) (A : Nat → Prop) (s : State) : Prop := ∀ t, (t = 100 ∨ t = 101 ∨ t = 102) → va_Z "RationDesk" (slName t) "[I" (.ref (ad t)) A s s.heap
def ro0 : RO := fun o => match o with
  | 100 => some (3, fun j => match j with
    | 0 => 0
    | 1 => 0
    | _ => 1)
  | 101 => some (3, fun j => match j with
    | 0 => 1
    | _ => 2)
  | 102 => some (15, fun j => match j with
    | 0 => 0
    | 1 => 1
    | 2 => 2
    | 3 => 0
    | 4 => 0
    | 5 => 1
    | 6 => 0
    | 7 => 1
    | 8 => 0
    | 9 => 0
    | 10 => 1
    | 11 => 1
    | _ => 0)
  | _ => none
/-- what a frame of the method Y may lean on -/
def FC (ro : RO) (Y : MT) (p : Program) (R : Room) (s : State) (m : MethodId) (args : Array Value) (meth : Method) (c : Code) (A : Nat → Prop) (ad : Nat → Nat) : Prop :=
  p.tables.exec = Jvm.exec ∧ c.code = Y.2.1 ∧ c.maxLocals = Y.2.2.1 ∧ s.vm.findClass (RN Y.2.2.2.2.2.2) = some m.cls ∧ (∀ w ∈ GW, w.before args s = true) ∧ (∀ w ∈ NW, va_Nw w s) ∧ (∀ q, s.heap.size ≤ q → A q) ∧ ROok ro ad A s ∧ Zok ad A s ∧
  (Y.2.2.2.2.1 ≤ R.frames ∧ Y.2.2.2.2.2.1 ≤ R.locals) ∧ ((Y.1.name == "<init>") = true → meth.name = "<init>")
theorem vpin_of {i : Int32} {h N : Nat} (e : i = nI h) (hN : h < N) (hb : N < 2 ^ 31) : vp_in i N ∧ i.toNatClampNeg = h := by
  subst e
  exact ⟨vp_in_nI hN hb, nI_clamp (by omega)⟩
theorem sh_small : ∀ i b N, shg SHL i = some (.inr (b, N)) → N < 2 ^ 31 := by
  have h : (List.range 39).all (fun i => match shg SHL i with
    | some (.inr (_, N)) => decide (N < 2 ^ 31)
    | _ => true) = true := by decide +kernel
  intro i b N hi
  have hlt : i < 39 := by
    by_cases q : i < 39
    · exact q
    · have e : ∀ (l : List (Nat ⊕ (Bool × Nat))) (k : Nat), l.length ≤ k → shg l k = none := by
        intro l
        induction l with
        | nil => intro k _; rfl
        | cons a r ih =>
          intro k hk
          cases k with
          | zero => simp at hk
          | succ k => exact ih k (by simpa using hk)
      rw [e SHL i (by show 27 ≤ i; omega)] at hi
      cases hi
  have := List.all_eq_true.mp h i (List.mem_range.mpr hlt)
  rw [hi] at this
  simpa using this
theorem sh_cls : ∀ i c, shg SHL i = some (.inl c) → c < 6 := by
  have h : (List.range 39).all (fun i => match shg SHL i with
    | some (.inl c) => decide (c < 6)
    | _ => true) = true := by decide +kernel
  intro i c hi
  have hlt : i < 39 := by
    by_cases q : i < 39
    · exact q
    · have e : ∀ (l : List (Nat ⊕ (Bool × Nat))) (k : Nat), l.length ≤ k → shg l k = none := by
        intro l
        induction l with
        | nil => intro k _; rfl
        | cons a r ih =>
          intro k hk
          cases k with
          | zero => simp at hk
          | succ k => exact ih k (by simpa using hk)
      rw [e SHL i (by show 27 ≤ i; omega)] at hi
      cases hi
  have := List.all_eq_true.mp h i (List.mem_range.mpr hlt)
  rw [hi] at this
  simpa using this
theorem fl_spec {cn x a b : Nat} (h : FL.any (fun e => e.1 == cn && e.2.1 == x && e.2.2.1 == a && e.2.2.2.1 == b) = true) :
    ((Cond.fieldLink (RN cn) x (TT a b).1 (TT a b).2.1 (TT a b).2.2.1 ∈ GW) ∨ (Cond.fieldLinkNest (RN cn) x (TT a b).1 (TT a b).2.1 (TT a b).2.2.1 "RationDesk" ∈ NW)) ∧ a < 6 ∧ b < nf a := by
  obtain ⟨e, he, h⟩ := List.any_eq_true.mp h
  have h2 := List.all_eq_true.mp FL_ok e he
  simp only [Bool.and_eq_true, beq_iff_eq, decide_eq_true_eq] at h h2
  obtain ⟨⟨⟨h3, h4⟩, h5⟩, h6⟩ := h
  obtain ⟨⟨g1, g2⟩, g3⟩ := h2
  subst h3; subst h4; subst h5; subst h6
  refine ⟨?_, g2, g3⟩
  unfold flW at g1
  split at g1
  · exact Or.inr (nw_f g1)
  · exact Or.inl (gw_at g1 rfl)
theorem fl_spec2 {cn x a b : Nat} (h : FL.any (fun e => e.1 == cn && e.2.1 == x && e.2.2.1 == a && e.2.2.2.1 == b && e.2.2.2.2.2 == false) = true) :
    (Cond.fieldLink (RN cn) x (TT a b).1 (TT a b).2.1 (TT a b).2.2.1 ∈ GW) ∧ a < 6 ∧ b < nf a := by
  obtain ⟨e, he, h⟩ := List.any_eq_true.mp h
  have h2 := List.all_eq_true.mp FL_ok e he
  simp only [Bool.and_eq_true, beq_iff_eq, decide_eq_true_eq] at h h2
  obtain ⟨⟨⟨⟨h3, h4⟩, h5⟩, h6⟩, h7⟩ := h
  obtain ⟨⟨g1, g2⟩, g3⟩ := h2
  subst h3; subst h4; subst h5; subst h6
  refine ⟨?_, g2, g3⟩
  unfold flW at g1
  rw [h7] at g1
  exact gw_at g1 rfl
theorem sl_spec {cn x a : Nat} (h : SLT.any (fun e => e.1 == cn && e.2.1 == x && e.2.2.1 == a) = true) :
    ((Cond.fieldLink (RN cn) x "RationDesk" (slName a) "[I" ∈ GW) ∨ (Cond.fieldLinkNest (RN cn) x "RationDesk" (slName a) "[I" "RationDesk" ∈ NW)) ∧ (a = 100 ∨ a = 101 ∨ a = 102) := by
  obtain ⟨e, he, h⟩ := List.any_eq_true.mp h
  have h2 := List.all_eq_true.mp SLT_ok e he
  simp only [Bool.and_eq_true, beq_iff_eq, decide_eq_true_eq] at h h2
  obtain ⟨⟨h3, h4⟩, h5⟩ := h
  obtain ⟨g1, g2⟩ := h2
  subst h3; subst h4; subst h5
  refine ⟨?_, g2⟩
  unfold slW at g1
  split at g1
  · exact Or.inr (nw_f g1)
  · exact Or.inl (gw_at g1 rfl)
theorem lc_spec {cn x a : Nat} (h : LCT.any (fun e => e.1 == cn && e.2.1 == x && e.2.2.1 == a) = true) : Cond.constantLong (RN cn) x (lcv a) ∈ GW := by
  obtain ⟨e, he, h⟩ := List.any_eq_true.mp h
  have h2 := List.all_eq_true.mp LCT_ok e he
  simp only [Bool.and_eq_true, beq_iff_eq, decide_eq_true_eq] at h h2
  obtain ⟨⟨h3, h4⟩, h5⟩ := h
  subst h3; subst h4; subst h5
  exact gw_at h2 rfl
theorem fty_ty : ∀ c, c < 6 → ∀ k, k < nf c → (fty c k = 0 → parseFieldDescriptor (TT c k).2.2.1 = some .int) ∧ (fty c k = 1 → parseFieldDescriptor (TT c k).2.2.1 = some .long) ∧ (fty c k = 3 → parseFieldDescriptor (TT c k).2.2.1 = some .boolean) ∧ (fty c k = 2 → ∃ t, parseFieldDescriptor (TT c k).2.2.1 = some t ∧ (∀ a, fits t (.ref a) = true) ∧ ∀ a, narrow t (.ref a) = .ref a) := by
  intro c hc k hk
  have h : ∀ c, c < 6 → ∀ k, k < nf c → (fty c k = 0 → parseFieldDescriptor (TT c k).2.2.1 = some .int) ∧ (fty c k = 1 → parseFieldDescriptor (TT c k).2.2.1 = some .long) ∧ (fty c k = 3 → parseFieldDescriptor (TT c k).2.2.1 = some .boolean) ∧ (fty c k = 2 → (tyT c k).isReference = true) := by decide +kernel
  obtain ⟨h1, h2, h3, h4⟩ := h c hc k hk
  refine ⟨h1, h2, h3, fun q => ⟨tyT c k, tyT_ok c hc k hk, fun a => ?_, fun a => ?_⟩⟩
  · have := h4 q
    cases hq : tyT c k <;> rw [hq] at this <;> first | rfl | cases this
  · have := h4 q
    cases hq : tyT c k <;> rw [hq] at this <;> first | rfl | cases this
theorem fval_set {ad : Nat → Nat} {M M' : Mem} {ci o k : Nat} {v : Value} (hv : rdf M' ci o k = v) (ho : ∀ j, j ≠ k → rdf M' ci o j = rdf M ci o j) : ((List.range (nf ci)).map (fval ad M ci o)).set k (rv ad v) = (List.range (nf ci)).map (fval ad M' ci o) := by
  apply List.ext_getElem?
  intro j
  simp only [List.getElem?_set, List.length_map, List.length_range, List.getElem?_map]
  by_cases hj : k = j
  · subst hj
    by_cases hn : k < nf ci
    · simp [hn, fval, hv]
    · simp [hn]
  · rw [if_neg hj]
    by_cases hn : j < nf ci
    · simp [hn, fval, ho j (Ne.symm hj)]
    · simp [hn]
theorem went_o {ad : Nat → Nat} {cA : Nat → ClassId} {M M' : Mem} {j : Nat} (h1 : M'.1 j = M.1 j) (h2 : M'.2.1 j = M.2.1 j) (h3 : M'.2.2 j = M.2.2 j) : went ad cA M' j = went ad cA M j := by
  have : ∀ ci, fval ad M' ci j = fval ad M ci j := fun ci => by
    funext k
    unfold fval rdf
    rw [h1, h2, h3]
  unfold went
  rw [h1]
  split <;> simp [this]
theorem u2_row {α : Type} {f : Nat → Nat → α} {o k : Nat} {v : α} {j : Nat} (h : j ≠ o) : u2 f o k v j = f j := by
  funext q
  exact u2_o h
