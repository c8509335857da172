/-! ===== a machine of our own: objects by number in the order in which they are made; what it says, the JVM does (part 04, 05) ===== -/
abbrev Mem : Type := (Nat → Nat → Int32) × (Nat → Nat → Int64) × (Nat → Nat → Value)
def u2 {α : Type} (f : Nat → Nat → α) (o k : Nat) (v : α) : Nat → Nat → α := fun o' k' => if o' = o ∧ k' = k then v else f o' k'
theorem u2_s {α : Type} {f : Nat → Nat → α} {o k : Nat} {v : α} : u2 f o k v o k = v := if_pos ⟨rfl, rfl⟩
theorem u2_o {α : Type} {f : Nat → Nat → α} {o k o' k' : Nat} {v : α} (h : o' ≠ o) : u2 f o k v o' k' = f o' k' := if_neg fun q => h q.1
theorem u2_k {α : Type} {f : Nat → Nat → α} {o k o' k' : Nat} {v : α} (h : k' ≠ k) : u2 f o k v o' k' = f o' k' := if_neg fun q => h q.2
def shg : List (Nat ⊕ (Bool × Nat)) → Nat → Option (Nat ⊕ (Bool × Nat))
  | [], _ => none
  | a :: _, 0 => some a
  | _ :: r, k + 1 => shg r k
def lget : List Value → Nat → Value
  | [], _ => .null
  | v :: _, 0 => v
  | _ :: r, k + 1 => lget r k
def lset : List Value → Nat → Value → List Value
  | [], _, _ => []
  | _ :: r, 0, v => v :: r
  | a :: r, k + 1, v => a :: lset r k v
/-- constants as they are written -/
def c32n (n : Nat) : Int32 := match n with
  | 0 => 0
  | 1 => 1
  | 2 => 2
  | 3 => 3
  | 4 => 4
  | 5 => 5
  | 6 => 6
  | 7 => 7
  | 8 => 8
  | 9 => 9
  | 10 => 10
  | 14 => 14
  | 15 => 15
  | 16 => 16
  | 20 => 20
  | 24 => 24
  | 31 => 31
  | 32 => 32
  | 99 => 99
  | 160 => 160
  | 11 => 11
  | 12 => 12
  | 18 => 18
  | 19 => 19
  | 23 => 23
  | 63 => 63
  | 255 => 255
  | 364 => 364
  | 1000 => 1000
  | n => Int32.ofInt (n : Int)
def c32 (n : Int) : Int32 := match n with
  | .ofNat k => c32n k
  | .negSucc 0 => -1
  | .negSucc 1 => -2
  | .negSucc 19 => -20
  | .negSucc 8 => -9
  | .negSucc 98 => -99
  | n => Int32.ofInt n
theorem c32_eq (n : Int) : Int32.ofInt n = c32 n := by
  unfold c32
  split
  · rename_i k
    unfold c32n
    split <;> first | rfl | decide
  all_goals first | rfl | decide
abbrev ST : Type := List Nat × List Value × List Value × Mem
def rdf (M : Mem) (ci o k : Nat) : Value := match fty ci k with
  | 1 => .long (M.2.1 o k)
  | 2 => M.2.2 o k
  | _ => .int (M.1 o k)
def x_push (v : Value) (s : ST) : Option (ST × Option Prop) := some ((s.1, s.2.1, v :: s.2.2.1, s.2.2.2), none)
def x_ii (f : Int32 → Int32 → Int32) (s : ST) : Option (ST × Option Prop) := match s.2.2.1 with
  | .int y :: .int x :: r => some ((s.1, s.2.1, .int (f x y) :: r, s.2.2.2), none)
  | _ => none
def x_iid (f : Int32 → Int32 → Int32) (s : ST) : Option (ST × Option Prop) := match s.2.2.1 with
  | .int y :: .int x :: r => some ((s.1, s.2.1, .int (f x y) :: r, s.2.2.2), some (¬ y = 0))
  | _ => none
def x_ll (f : Int64 → Int64 → Int64) (s : ST) : Option (ST × Option Prop) := match s.2.2.1 with
  | .long y :: .long x :: r => some ((s.1, s.2.1, .long (f x y) :: r, s.2.2.2), none)
  | _ => none
def x_lld (f : Int64 → Int64 → Int64) (s : ST) : Option (ST × Option Prop) := match s.2.2.1 with
  | .long y :: .long x :: r => some ((s.1, s.2.1, .long (f x y) :: r, s.2.2.2), some (¬ y = 0))
  | _ => none
def x_lcmp (s : ST) : Option (ST × Option Prop) := match s.2.2.1 with
  | .long y :: .long x :: r => some ((s.1, s.2.1, .int (lg_cmp x y) :: r, s.2.2.2), none)
  | _ => none
def x_i (f : Int32 → Value) (s : ST) : Option (ST × Option Prop) := match s.2.2.1 with
  | .int x :: r => some ((s.1, s.2.1, f x :: r, s.2.2.2), none)
  | _ => none
def x_l (f : Int64 → Value) (s : ST) : Option (ST × Option Prop) := match s.2.2.1 with
  | .long x :: r => some ((s.1, s.2.1, f x :: r, s.2.2.2), none)
  | _ => none
def x_iload (k : Nat) (s : ST) : Option (ST × Option Prop) := match lget s.2.1 k with
  | .int x => x_push (.int x) s
  | _ => none
def x_aload (k : Nat) (s : ST) : Option (ST × Option Prop) := match lget s.2.1 k with
  | .ref x => x_push (.ref x) s
  | _ => none
def x_lload (k : Nat) (s : ST) : Option (ST × Option Prop) := match lget s.2.1 k, lget s.2.1 (k + 1) with
  | .long x, .null => x_push (.long x) s
  | _, _ => none
def x_istore (mL k : Nat) (s : ST) : Option (ST × Option Prop) := match s.2.2.1 with
  | .int x :: r => if k < mL then some ((s.1, lset s.2.1 k (.int x), r, s.2.2.2), none) else none
  | _ => none
def x_astore (mL k : Nat) (s : ST) : Option (ST × Option Prop) := match s.2.2.1 with
  | .ref x :: r => if k < mL then some ((s.1, lset s.2.1 k (.ref x), r, s.2.2.2), none) else none
  | _ => none
def x_lstore (mL k : Nat) (s : ST) : Option (ST × Option Prop) := match s.2.2.1 with
  | .long x :: r => if k + 1 < mL then some ((s.1, lset (lset s.2.1 k (.long x)) (k + 1) .null, r, s.2.2.2), none) else none
  | _ => none
def x_iinc (mL k : Nat) (n : Int) (s : ST) : Option (ST × Option Prop) := match lget s.2.1 k with
  | .int x => if k < mL then some ((s.1, lset s.2.1 k (.int (x + c32 n)), s.2.2.1, s.2.2.2), none) else none
  | _ => none
def cat1 (v : Value) : Bool := match v with
  | .int _ => true
  | .ref _ => true
  | _ => false
def x_dup (s : ST) : Option (ST × Option Prop) := match s.2.2.1 with
  | v :: r => if cat1 v = true then some ((s.1, s.2.1, v :: v :: r, s.2.2.2), none) else none
  | _ => none
def x_dupx1 (s : ST) : Option (ST × Option Prop) := match s.2.2.1 with
  | v :: w :: r => if (cat1 v && cat1 w) = true then some ((s.1, s.2.1, v :: w :: v :: r, s.2.2.2), none) else none
  | _ => none
def x_dup2 (s : ST) : Option (ST × Option Prop) := match s.2.2.1 with
  | v :: w :: r => if (cat1 v && cat1 w) = true then some ((s.1, s.2.1, v :: w :: v :: w :: r, s.2.2.2), none) else none
  | _ => none
def x_get (ci k : Nat) (n : Nat) (s : ST) : Option (ST × Option Prop) := match s.2.2.1 with
  | .ref o :: r => match shg SHL o with
    | some (.inl c) => if c = ci ∧ o < n then some ((s.1, s.2.1, rdf s.2.2.2 ci o k :: r, s.2.2.2), none) else none
    | _ => none
  | _ => none
def x_put (ci k : Nat) (n : Nat) (s : ST) : Option (ST × Option Prop) := match s.2.2.1 with
  | v :: .ref o :: r => match shg SHL o with
    | some (.inl c) => if c = ci ∧ o < n then (match fty ci k, v with
      | 0, .int x => some ((s.1, s.2.1, r, (u2 s.2.2.2.1 o k x, s.2.2.2.2)), none)
      | 3, .int x => some ((s.1, s.2.1, r, (u2 s.2.2.2.1 o k x, s.2.2.2.2)), some (x = 0 ∨ x = 1))
      | 1, .long x => some ((s.1, s.2.1, r, (s.2.2.2.1, u2 s.2.2.2.2.1 o k x, s.2.2.2.2.2)), none)
      | 2, .ref x => some ((s.1, s.2.1, r, (s.2.2.2.1, s.2.2.2.2.1, u2 s.2.2.2.2.2 o k (.ref x))), none)
      | _, _ => none) else none
    | _ => none
  | _ => none
abbrev RO : Type := Nat → Option (Nat × (Nat → Int32))
def x_ald (bo : Bool) (ro : RO) (n : Nat) (s : ST) : Option (ST × Option Prop) := match s.2.2.1, s.1 with
  | .int i :: .ref o :: r, h :: hs => match ro o with
    | some (N, f) => if bo = false then some ((hs, s.2.1, .int (f h) :: r, s.2.2.2), some (i = nI h ∧ h < N)) else none
    | none => match shg SHL o with
      | some (.inr (b, N)) => if b = bo ∧ o < n then some ((hs, s.2.1, .int (s.2.2.2.1 o h) :: r, s.2.2.2), some (i = nI h ∧ h < N)) else none
      | _ => none
  | _, _ => none
def x_ast (bo : Bool) (n : Nat) (s : ST) : Option (ST × Option Prop) := match s.2.2.1, s.1 with
  | .int x :: .int i :: .ref o :: r, h :: hs => match shg SHL o with
    | some (.inr (b, N)) => if b = bo ∧ o < n then some ((hs, s.2.1, r, (u2 s.2.2.2.1 o h x, s.2.2.2.2)), some (match bo with
      | true => i = nI h ∧ h < N ∧ (x = 0 ∨ x = 1)
      | false => i = nI h ∧ h < N)) else none
    | _ => none
  | _, _ => none
def x_alen (ro : RO) (n : Nat) (s : ST) : Option (ST × Option Prop) := match s.2.2.1 with
  | .ref o :: r => match ro o with
    | some (N, _) => some ((s.1, s.2.1, .int (nI N) :: r, s.2.2.2), none)
    | none => match shg SHL o with
      | some (.inr (_, N)) => if o < n then some ((s.1, s.2.1, .int (nI N) :: r, s.2.2.2), none) else none
      | _ => none
  | _ => none
/-- one instruction; a, b: what the pool's entry says (a field's class and place; the number of a static row); the hints: where a row is read or written -/
def ex1 (ro : RO) (mL n : Nat) (i : Instr) (a b : Nat) (s : ST) : Option (ST × Option Prop) := match i with
  | .iconst z => x_push (.int (c32 z)) s
  | .bipush z => x_push (.int (c32 z)) s
  | .sipush z => x_push (.int (c32 z)) s
  | .lconst z => x_push (.long (if z = 0 then 0 else 1)) s
  | .iload k => x_iload k s
  | .iload_n k => x_iload k.val s
  | .aload k => x_aload k s
  | .aload_n k => x_aload k.val s
  | .lload k => x_lload k s
  | .lload_n k => x_lload k.val s
  | .istore k => x_istore mL k s
  | .istore_n k => x_istore mL k.val s
  | .astore k => x_astore mL k s
  | .astore_n k => x_astore mL k.val s
  | .lstore k => x_lstore mL k s
  | .lstore_n k => x_lstore mL k.val s
  | .iinc k z => x_iinc mL k z s
  | .iadd => x_ii (fun x y => x + y) s
  | .isub => x_ii (fun x y => x - y) s
  | .imul => x_ii (fun x y => x * y) s
  | .iand => x_ii (fun x y => x &&& y) s
  | .ior => x_ii (fun x y => x ||| y) s
  | .ixor => x_ii (fun x y => x ^^^ y) s
  | .ishl => x_ii (fun x y => x <<< (y &&& 31)) s
  | .ishr => x_ii (fun x y => x >>> (y &&& 31)) s
  | .iushr => x_ii (fun x y => (x.toUInt32 >>> (y.toUInt32 &&& Int32.toUInt32 31)).toInt32) s
  | .l2i => x_l (fun x => .int x.toInt32) s
  | .ldc2_w _ => x_push (.long (lcv a)) s
  | .idiv => x_iid (fun x y => x / y) s
  | .irem => x_iid (fun x y => x - x / y * y) s
  | .ineg => x_i (fun x => .int (-x)) s
  | .i2l => x_i (fun x => .long x.toInt64) s
  | .ladd => x_ll (fun x y => x + y) s
  | .lsub => x_ll (fun x y => x - y) s
  | .lmul => x_ll (fun x y => x * y) s
  | .ldiv => x_lld (fun x y => x / y) s
  | .lrem => x_lld (fun x y => x - x / y * y) s
  | .lneg => x_l (fun x => .long (-x)) s
  | .lcmp => x_lcmp s
  | .dup => x_dup s
  | .dup_x1 => x_dupx1 s
  | .dup2 => x_dup2 s
  | .getfield _ => x_get a b n s
  | .putfield _ => x_put a b n s
  | .getstatic _ => x_push (.ref a) s
  | .iaload => x_ald false ro n s
  | .baload => x_ald true ro n s
  | .iastore => x_ast false n s
  | .bastore => x_ast true n s
  | .arraylength => x_alen ro n s
  | _ => none
def andc : Option Prop → Prop → Prop
  | none, C => C
  | some c, C => c ∧ C
abbrev Blk : Type := List (Instr × Nat × Nat)
def exL (ro : RO) (mL n : Nat) : Blk → ST → Option (ST × Prop)
  | [], s => some (s, True)
  | i :: r, s => match ex1 ro mL n i.1 i.2.1 i.2.2 s with
    | none => none
    | some (s1, c1) => match exL ro mL n r s1 with
      | none => none
      | some (s2, c2) => some (s2, andc c1 c2)
/-- the pool's entries are as the block says -/
def annOk (cn : Nat) (ini : Bool) (i : Instr) (a b : Nat) : Bool := match i with
  | .getfield x => FL.any (fun e => e.1 == cn && e.2.1 == x && e.2.2.1 == a && e.2.2.2.1 == b)
  | .putfield x => FL.any (fun e => e.1 == cn && e.2.1 == x && e.2.2.1 == a && e.2.2.2.1 == b && e.2.2.2.2.2 == false) && ((TT a b).2.2.2 == false || (ini && a == cn))
  | .ldc2_w x => LCT.any (fun e => e.1 == cn && e.2.1 == x && e.2.2.1 == a)
  | .getstatic x => SLT.any (fun e => e.1 == cn && e.2.1 == x && e.2.2.1 == a)
  | .bipush z => decide ((Int8.ofInt z).toInt32 = c32 z)
  | .sipush z => decide ((Int16.ofInt z).toInt32 = c32 z)
  | _ => true
def okd (cc : ByteArray) (pc : Nat) (i : Instr) (k : Nat) : Bool := match decode cc pc with
  | .ok (j, l) => decide (j = i) && decide (l = k)
  | .error _ => false
theorem okd_eq {cc : ByteArray} {pc : Nat} {i : Instr} {k : Nat} (h : okd cc pc i k = true) : decode cc pc = .ok (i, k) := by
  unfold okd at h
  cases hd : decode cc pc with
  | error x => rw [hd] at h; cases h
  | ok v =>
    obtain ⟨j, l⟩ := v
    rw [hd] at h
    simp only [Bool.and_eq_true, decide_eq_true_eq] at h
    rw [h.1, h.2]
def ilen (i : Instr) : Nat := match i with
  | .iload _ => 2
  | .aload _ => 2
  | .lload _ => 2
  | .istore _ => 2
  | .astore _ => 2
  | .lstore _ => 2
  | .bipush _ => 2
  | .sipush _ => 3
  | .iinc _ _ => 3
  | .getfield _ => 3
  | .putfield _ => 3
  | .getstatic _ => 3
  | .ldc2_w _ => 3
  | _ => 1
def codeAt (cc : ByteArray) (cn : Nat) (ini : Bool) : Nat → Blk → Option Nat
  | pc, [] => some pc
  | pc, i :: r => if (okd cc pc i.1 (ilen i.1) && annOk cn ini i.1 i.2.1 i.2.2) = true then codeAt cc cn ini (pc + ilen i.1) r else none
/-- the locals: what a list says of them ('.null': nothing, or a long's second half) -/
def clm (L : List Value) (i : Nat) (v : Value) : Prop := lget L i = v ∧ ((∃ x, v = .int x) ∨ (∃ x, v = .ref x) ∨ (∃ x, v = .long x) ∧ lget L (i + 1) = .null)
def rv (ad : Nat → Nat) (v : Value) : Value := match v with
  | .ref o => .ref (ad o)
  | v => v
def lr (ad : Nat → Nat) (ls : Array Slot) (nL : Nat) (L : List Value) : Prop := ls.size = nL ∧ lv_wf ls ∧ L.length = nL ∧ ∀ (i : Nat) (v : Value), clm L i v → ls[i]? = some (.val (rv ad v))
theorem lget_set {L : List Value} {k : Nat} {v : Value} (h : k < L.length) (i : Nat) : lget (lset L k v) i = if i = k then v else lget L i := by
  induction L generalizing k i with
  | nil => simp at h
  | cons a r ih =>
    cases k with
    | zero =>
      cases i with
      | zero => rfl
      | succ i => rfl
    | succ k =>
      cases i with
      | zero => simp [lset, lget]
      | succ i =>
        have := ih (k := k) (by simpa using h) i
        simp only [lset, lget, this, Nat.add_right_cancel_iff]
theorem lset_len {L : List Value} {k : Nat} {v : Value} : (lset L k v).length = L.length := by
  induction L generalizing k with
  | nil => rfl
  | cons a r ih =>
    cases k with
    | zero => rfl
    | succ k => simp [lset, ih]
theorem lr.at {ad : Nat → Nat} {ls : Array Slot} {nL : Nat} {L : List Value} (h : lr ad ls nL L) {i : Nat} {v : Value} (hv : clm L i v) : ls[i]? = some (.val (rv ad v)) := h.2.2.2 i v hv
theorem rv_cat (ad : Nat → Nat) (v : Value) : (rv ad v).category = v.category := by cases v <;> rfl
/-- a store of one slot -/
theorem lr_store1 {ad : Nat → Nat} {ls : Array Slot} {nL : Nat} {L : List Value} {k : Nat} {v : Value} (h : lr ad ls nL L) (hk : k < nL) (hv : (∃ x, v = .int x) ∨ ∃ x, v = .ref x) :
    ∃ ls', storeLocals ls k (rv ad v) = some ls' ∧ lr ad ls' nL (lset L k v) := by
  have hc : (rv ad v).category = 1 := by rcases hv with ⟨x, rfl⟩ | ⟨x, rfl⟩ <;> rfl
  have hall : ∀ l : List (Nat × Value), (∀ q ∈ l, ls[q.1]? = some (.val q.2)) → ∃ ls', storeLocals ls k (rv ad v) = some ls' ∧ lv_has ls' nL ((k, rv ad v) :: l.filter (fun q => !(q.1 == k) && !(q.1 + 1 == k && q.2.category == 2))) :=
    fun l hl => lv_store1 (l := l) ⟨h.1, h.2.1, hl⟩ hk hc
  obtain ⟨ls', e, h'⟩ := hall [] (fun q hq => by cases hq)
  refine ⟨ls', e, h'.1, h'.2.1, by rw [lset_len]; exact h.2.2.1, fun i w hw => ?_⟩
  have hkl : k < L.length := by rw [h.2.2.1]; exact hk
  obtain ⟨hw1, hw2⟩ := hw
  rw [lget_set hkl] at hw1
  by_cases hik : i = k
  · rw [if_pos hik] at hw1
    subst hw1; subst hik
    exact h'.2.2 (i, rv ad v) List.mem_cons_self
  · rw [if_neg hik] at hw1
    have hcl : clm L i w := by
      refine ⟨hw1, ?_⟩
      rcases hw2 with h1 | h1 | ⟨h1, h2⟩
      · exact Or.inl h1
      · exact Or.inr (Or.inl h1)
      · refine Or.inr (Or.inr ⟨h1, ?_⟩)
        rw [lget_set hkl] at h2
        by_cases hi1 : i + 1 = k
        · rw [if_pos hi1] at h2
          subst h2
          rcases hv with ⟨x, hx⟩ | ⟨x, hx⟩ <;> cases hx
        · rw [if_neg hi1] at h2
          exact h2
    have hnot : ¬ (i + 1 = k ∧ (rv ad w).category = 2) := by
      rintro ⟨q1, q2⟩
      rcases hw2 with ⟨x, rfl⟩ | ⟨x, rfl⟩ | ⟨⟨x, rfl⟩, h2⟩
      · cases q2
      · cases q2
      · rw [lget_set hkl, if_pos q1] at h2
        subst h2
        rcases hv with ⟨x, hx⟩ | ⟨x, hx⟩ <;> cases hx
    obtain ⟨ls2, e2, h2⟩ := hall [(i, rv ad w)] (fun q hq => by
      rw [List.mem_singleton] at hq
      subst hq
      exact h.at hcl)
    have : ls2 = ls' := Option.some.inj (e2.symm.trans e)
    subst this
    refine h2.2.2 (i, rv ad w) (List.mem_cons_of_mem _ (List.mem_filter.mpr ⟨List.mem_singleton.mpr rfl, ?_⟩))
    simp only [Bool.and_eq_true, Bool.not_eq_true', beq_eq_false_iff_ne, ne_eq, Bool.and_eq_false_iff]
    refine ⟨hik, ?_⟩
    by_cases q1 : i + 1 = k
    · exact Or.inr fun q2 => hnot ⟨q1, q2⟩
    · exact Or.inl q1
/-- a store of a long -/
theorem lr_store2 {ad : Nat → Nat} {ls : Array Slot} {nL : Nat} {L : List Value} {k : Nat} {x : Int64} (h : lr ad ls nL L) (hk : k + 1 < nL) :
    ∃ ls', storeLocals ls k (.long x) = some ls' ∧ lr ad ls' nL (lset (lset L k (.long x)) (k + 1) .null) := by
  have hall : ∀ l : List (Nat × Value), (∀ q ∈ l, ls[q.1]? = some (.val q.2)) → ∃ ls', storeLocals ls k (.long x) = some ls' ∧ lv_has ls' nL ((k, .long x) :: l.filter (fun q => !(q.1 == k) && (!(q.1 == k + 1) && !(q.1 + 1 == k && q.2.category == 2)))) :=
    fun l hl => lv_store2 (l := l) ⟨h.1, h.2.1, hl⟩ hk rfl
  obtain ⟨ls', e, h'⟩ := hall [] (fun q hq => by cases hq)
  have hkl : k < L.length := by rw [h.2.2.1]; omega
  have hkl2 : k + 1 < (lset L k (.long x)).length := by rw [lset_len, h.2.2.1]; exact hk
  refine ⟨ls', e, h'.1, h'.2.1, by rw [lset_len, lset_len]; exact h.2.2.1, fun i w hw => ?_⟩
  obtain ⟨hw1, hw2⟩ := hw
  have g : ∀ i, lget (lset (lset L k (.long x)) (k + 1) .null) i = if i = k + 1 then .null else if i = k then .long x else lget L i := fun i => by
    rw [lget_set hkl2, lget_set hkl]
  rw [g] at hw1
  by_cases hi1 : i = k + 1
  · rw [if_pos hi1] at hw1
    subst hw1
    rcases hw2 with ⟨x, hx⟩ | ⟨x, hx⟩ | ⟨⟨x, hx⟩, -⟩ <;> cases hx
  · rw [if_neg hi1] at hw1
    by_cases hik : i = k
    · rw [if_pos hik] at hw1
      subst hw1; subst hik
      exact h'.2.2 (i, .long x) List.mem_cons_self
    · rw [if_neg hik] at hw1
      have hnl : ¬ (i + 1 = k ∧ (rv ad w).category = 2) := by
        rintro ⟨q1, q2⟩
        rcases hw2 with ⟨y, rfl⟩ | ⟨y, rfl⟩ | ⟨⟨y, rfl⟩, h2⟩
        · cases q2
        · cases q2
        · rw [g, if_neg (by omega), if_pos q1] at h2
          cases h2
      have hcl : clm L i w := by
        refine ⟨hw1, ?_⟩
        rcases hw2 with h1 | h1 | ⟨h1, h2⟩
        · exact Or.inl h1
        · exact Or.inr (Or.inl h1)
        · refine Or.inr (Or.inr ⟨h1, ?_⟩)
          have n1 : ¬ i + 1 = k := fun q => hnl ⟨q, by obtain ⟨y, rfl⟩ := h1; rfl⟩
          rw [g, if_neg (by omega), if_neg n1] at h2
          exact h2
      obtain ⟨ls2, e2, h2⟩ := hall [(i, rv ad w)] (fun q hq => by
        rw [List.mem_singleton] at hq
        subst hq
        exact h.at hcl)
      have : ls2 = ls' := Option.some.inj (e2.symm.trans e)
      subst this
      refine h2.2.2 (i, rv ad w) (List.mem_cons_of_mem _ (List.mem_filter.mpr ⟨List.mem_singleton.mpr rfl, ?_⟩))
      simp only [Bool.and_eq_true, Bool.not_eq_true', beq_eq_false_iff_ne, ne_eq, Bool.and_eq_false_iff]
      refine ⟨hik, hi1, ?_⟩
      by_cases q1 : i + 1 = k
      · exact Or.inr fun q2 => hnl ⟨q1, q2⟩
      · exact Or.inl q1
