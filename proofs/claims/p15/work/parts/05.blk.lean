/-! ===== one instruction of a block ===== -/
section BLK
variable {ro : RO} {Y : MT} {p : Program} {l : Launch} {e : Env} {R : Room} {s : State} {m : MethodId} {args : Array Value} {below : List Frame} {meth : Method} {c : Code} {A : Nat → Prop} {ad : Nat → Nat} {cA : Nat → ClassId} {D : va_G} {H : Heap} {locs : List Loc} {cells slots : Nat} {Q : State → Prop} {ls : Array Slot} {n : Nat} {pc : Nat}
/-- the place where a frame stands, as the machine tells it -/
def Pl (ro : RO) (Y : MT) (p : Program) (l : Launch) (e : Env) (R : Room) (s : State) (m : MethodId) (args : Array Value) (below : List Frame) (meth : Method) (c : Code) (A : Nat → Prop) (ad : Nat → Nat) (cA : Nat → ClassId) (D : va_G) (cells slots : Nat) (Q : State → Prop) (n : Nat) (pc : Nat) (L st : List Value) (M : Mem) : Prop :=
  ∀ (H : Heap) (locs : List Loc) (ls : Array Slot), RelH n M ad cA D A H s → va_S A s.heap H locs → lr ad ls Y.2.2.1 L → W p l e R s m args below meth c H locs cells slots Q (F0 m pc ls (st.map (rv ad)))
theorem ok_ii {f : Int32 → Int32 → Int32} {s1 : ST} {s2 : ST} {c1 : Option Prop} (h : x_ii f s1 = some (s2, c1)) : ∃ x y r, s1.2.2.1 = .int y :: .int x :: r ∧ s2 = (s1.1, s1.2.1, .int (f x y) :: r, s1.2.2.2) ∧ c1 = none := by
  unfold x_ii at h
  split at h
  · rename_i y x r hst
    cases h
    exact ⟨x, y, r, hst, rfl, rfl⟩
  · cases h
theorem ok_iid {f : Int32 → Int32 → Int32} {s1 : ST} {s2 : ST} {c1 : Option Prop} (h : x_iid f s1 = some (s2, c1)) : ∃ x y r, s1.2.2.1 = .int y :: .int x :: r ∧ s2 = (s1.1, s1.2.1, .int (f x y) :: r, s1.2.2.2) ∧ c1 = some (¬ y = 0) := by
  unfold x_iid at h
  split at h
  · rename_i y x r hst
    cases h
    exact ⟨x, y, r, hst, rfl, rfl⟩
  · cases h
theorem ok_ll {f : Int64 → Int64 → Int64} {s1 : ST} {s2 : ST} {c1 : Option Prop} (h : x_ll f s1 = some (s2, c1)) : ∃ x y r, s1.2.2.1 = .long y :: .long x :: r ∧ s2 = (s1.1, s1.2.1, .long (f x y) :: r, s1.2.2.2) ∧ c1 = none := by
  unfold x_ll at h
  split at h
  · rename_i y x r hst
    cases h
    exact ⟨x, y, r, hst, rfl, rfl⟩
  · cases h
theorem ok_lld {f : Int64 → Int64 → Int64} {s1 : ST} {s2 : ST} {c1 : Option Prop} (h : x_lld f s1 = some (s2, c1)) : ∃ x y r, s1.2.2.1 = .long y :: .long x :: r ∧ s2 = (s1.1, s1.2.1, .long (f x y) :: r, s1.2.2.2) ∧ c1 = some (¬ y = 0) := by
  unfold x_lld at h
  split at h
  · rename_i y x r hst
    cases h
    exact ⟨x, y, r, hst, rfl, rfl⟩
  · cases h
theorem ok_i {f : Int32 → Value} {s1 : ST} {s2 : ST} {c1 : Option Prop} (h : x_i f s1 = some (s2, c1)) : ∃ x r, s1.2.2.1 = .int x :: r ∧ s2 = (s1.1, s1.2.1, f x :: r, s1.2.2.2) ∧ c1 = none := by
  unfold x_i at h
  split at h
  · rename_i x r hst
    cases h
    exact ⟨x, r, hst, rfl, rfl⟩
  · cases h
theorem ok_l {f : Int64 → Value} {s1 : ST} {s2 : ST} {c1 : Option Prop} (h : x_l f s1 = some (s2, c1)) : ∃ x r, s1.2.2.1 = .long x :: r ∧ s2 = (s1.1, s1.2.1, f x :: r, s1.2.2.2) ∧ c1 = none := by
  unfold x_l at h
  split at h
  · rename_i x r hst
    cases h
    exact ⟨x, r, hst, rfl, rfl⟩
  · cases h
theorem ok_iload {k : Nat} {s1 : ST} {s2 : ST} {c1 : Option Prop} (h : x_iload k s1 = some (s2, c1)) : ∃ x, clm s1.2.1 k (.int x) ∧ s2 = (s1.1, s1.2.1, .int x :: s1.2.2.1, s1.2.2.2) ∧ c1 = none := by
  unfold x_iload at h
  split at h
  · rename_i x hst
    cases h
    exact ⟨x, ⟨hst, Or.inl ⟨x, rfl⟩⟩, rfl, rfl⟩
  · cases h
theorem ok_aload {k : Nat} {s1 : ST} {s2 : ST} {c1 : Option Prop} (h : x_aload k s1 = some (s2, c1)) : ∃ x, clm s1.2.1 k (.ref x) ∧ s2 = (s1.1, s1.2.1, .ref x :: s1.2.2.1, s1.2.2.2) ∧ c1 = none := by
  unfold x_aload at h
  split at h
  · rename_i x hst
    cases h
    exact ⟨x, ⟨hst, Or.inr (Or.inl ⟨x, rfl⟩)⟩, rfl, rfl⟩
  · cases h
theorem ok_lload {k : Nat} {s1 : ST} {s2 : ST} {c1 : Option Prop} (h : x_lload k s1 = some (s2, c1)) : ∃ x, clm s1.2.1 k (.long x) ∧ s2 = (s1.1, s1.2.1, .long x :: s1.2.2.1, s1.2.2.2) ∧ c1 = none := by
  unfold x_lload at h
  split at h
  · rename_i x hst hst2
    cases h
    exact ⟨x, ⟨hst, Or.inr (Or.inr ⟨⟨x, rfl⟩, hst2⟩)⟩, rfl, rfl⟩
  · cases h
theorem ok_istore {mL k : Nat} {s1 : ST} {s2 : ST} {c1 : Option Prop} (h : x_istore mL k s1 = some (s2, c1)) : ∃ x r, s1.2.2.1 = .int x :: r ∧ k < mL ∧ s2 = (s1.1, lset s1.2.1 k (.int x), r, s1.2.2.2) ∧ c1 = none := by
  unfold x_istore at h
  split at h
  · rename_i x r hst
    split at h
    · rename_i hk
      cases h
      exact ⟨x, r, hst, hk, rfl, rfl⟩
    · cases h
  · cases h
theorem ok_astore {mL k : Nat} {s1 : ST} {s2 : ST} {c1 : Option Prop} (h : x_astore mL k s1 = some (s2, c1)) : ∃ x r, s1.2.2.1 = .ref x :: r ∧ k < mL ∧ s2 = (s1.1, lset s1.2.1 k (.ref x), r, s1.2.2.2) ∧ c1 = none := by
  unfold x_astore at h
  split at h
  · rename_i x r hst
    split at h
    · rename_i hk
      cases h
      exact ⟨x, r, hst, hk, rfl, rfl⟩
    · cases h
  · cases h
theorem ok_lstore {mL k : Nat} {s1 : ST} {s2 : ST} {c1 : Option Prop} (h : x_lstore mL k s1 = some (s2, c1)) : ∃ x r, s1.2.2.1 = .long x :: r ∧ k + 1 < mL ∧ s2 = (s1.1, lset (lset s1.2.1 k (.long x)) (k + 1) .null, r, s1.2.2.2) ∧ c1 = none := by
  unfold x_lstore at h
  split at h
  · rename_i x r hst
    split at h
    · rename_i hk
      cases h
      exact ⟨x, r, hst, hk, rfl, rfl⟩
    · cases h
  · cases h
theorem ok_iinc {mL k : Nat} {z : Int} {s1 : ST} {s2 : ST} {c1 : Option Prop} (h : x_iinc mL k z s1 = some (s2, c1)) : ∃ x, clm s1.2.1 k (.int x) ∧ k < mL ∧ s2 = (s1.1, lset s1.2.1 k (.int (x + c32 z)), s1.2.2.1, s1.2.2.2) ∧ c1 = none := by
  unfold x_iinc at h
  split at h
  · rename_i x hst
    split at h
    · rename_i hk
      cases h
      exact ⟨x, ⟨hst, Or.inl ⟨x, rfl⟩⟩, hk, rfl, rfl⟩
    · cases h
  · cases h
theorem cat1_rv {v : Value} (h : cat1 v = true) : (rv ad v).category = 1 := by
  cases v <;> first | rfl | cases h
theorem own_ok : ∀ c, c < 6 → ∀ k, k < nf c → (TT c k).1 = RN c := by decide +kernel
theorem nar_bool {x : Int32} (h : x = 0 ∨ x = 1) : vp_nar .boolean x = x ∧ narrow .boolean (.int x) = .int x ∧ fits .boolean (.int x) = true := by
  rcases h with rfl | rfl <;> exact ⟨by decide, by decide, by decide⟩
variable {a b : Nat} {i : Instr} {s1 s2 : ST} {c1 : Option Prop}
theorem pl_st (hd : decode Y.2.1 pc = .ok (i, ilen i)) {k : Nat} {v : Value} {L : List Value} {r : List Value} {M : Mem} (hx : p.tables.exec = Jvm.exec) (hb : c.code = Y.2.1) (hR : RelH n M ad cA D A H s) (hS : va_S A s.heap H locs) (hl : lr ad ls Y.2.2.1 L) (hk : k < Y.2.2.1)
    (hi : (i = .istore k ∨ (∃ q : Fin 4, i = .istore_n q ∧ q.val = k)) ∧ (∃ x, v = .int x) ∨ (i = .astore k ∨ (∃ q : Fin 4, i = .astore_n q ∧ q.val = k)) ∧ ∃ x, v = .ref x)
    (kk : Pl ro Y p l e R s m args below meth c A ad cA D cells slots Q n (pc + ilen i) (lset L k v) r M) : W p l e R s m args below meth c H locs cells slots Q (F0 m pc ls ((v :: r).map (rv ad))) := by
  obtain ⟨ls', e', h'⟩ := lr_store1 (v := v) hl hk (by rcases hi with h | h; exact Or.inl h.2; exact Or.inr h.2)
  intro T hT X
  obtain ⟨t, a1, b1⟩ := kk H locs ls' hR hS h' T hT X
  refine ⟨t, ?_, b1⟩
  rcases hi with ⟨rfl | ⟨q, rfl, rfl⟩, x, rfl⟩ | ⟨rfl | ⟨q, rfl, rfl⟩, x, rfl⟩
  all_goals
    simp only [rv] at e'
    simp only [ilen] at hd a1
    simp only [List.map_cons, rv]
    jvm_step X.here [X.here.top, ↓top_set X.here.top, hx, hb, hd, e']
    first | exact a1 | exact ⟨rfl, a1⟩
set_option maxHeartbeats 8000000 in
theorem ex1_ok (F : FC ro Y p R s m args meth c A ad) (hd : decode Y.2.1 pc = .ok (i, ilen i)) (ha : annOk Y.2.2.2.2.2.2 (Y.1.name == "<init>") i a b = true)
    (hex : ex1 ro Y.2.2.1 n i a b s1 = some (s2, c1)) (hc : ∀ q, c1 = some q → q) (hR : RelH n s1.2.2.2 ad cA D A H s) (hS : va_S A s.heap H locs) (hl : lr ad ls Y.2.2.1 s1.2.1)
    (kk : Pl ro Y p l e R s m args below meth c A ad cA D cells slots Q n (pc + ilen i) s2.2.1 s2.2.2.1 s2.2.2.2) :
    W p l e R s m args below meth c H locs cells slots Q (F0 m pc ls (s1.2.2.1.map (rv ad))) := by
  obtain ⟨hx, hb, hml, hown, hgw, hnw, hA, hro, hz, hroom, hini⟩ := F
  have kq := kk H locs ls
  cases i
  case iconst z =>
    cases hex
    exact lv_iconst hx hb hd (c32_eq z) (kk H locs ls hR hS hl)
  case bipush z =>
    cases hex
    exact lv_bipush hx hb hd (of_decide_eq_true ha) (kk H locs ls hR hS hl)
  case sipush z =>
    cases hex
    exact lv_sipush hx hb hd (of_decide_eq_true ha) (kk H locs ls hR hS hl)
  case lconst z =>
    cases hex
    refine lv_lconst (v := if z = 0 then 0 else 1) hx hb hd ?_ (kk H locs ls hR hS hl)
    rcases (show z = 0 ∨ z = 1 by omega) with rfl | rfl <;> rfl
  case iload k =>
    obtain ⟨x, h1, rfl, rfl⟩ := ok_iload hex
    exact lv_iload hx hb hd (hl.at h1) (kk H locs ls hR hS hl)
  case iload_n k =>
    obtain ⟨x, h1, rfl, rfl⟩ := ok_iload hex
    exact lv_iload_n hx hb hd rfl (hl.at h1) (kk H locs ls hR hS hl)
  case aload k =>
    obtain ⟨x, h1, rfl, rfl⟩ := ok_aload hex
    exact lv_aload hx hb hd (hl.at h1) (kk H locs ls hR hS hl)
  case aload_n k =>
    obtain ⟨x, h1, rfl, rfl⟩ := ok_aload hex
    exact lv_aload_n hx hb hd rfl (hl.at h1) (kk H locs ls hR hS hl)
  case lload k =>
    obtain ⟨x, h1, rfl, rfl⟩ := ok_lload hex
    exact lv_lload hx hb hd (hl.at h1) (kk H locs ls hR hS hl)
  case lload_n k =>
    obtain ⟨x, h1, rfl, rfl⟩ := ok_lload hex
    exact lv_lload_n hx hb hd rfl (hl.at h1) (kk H locs ls hR hS hl)
  case istore k =>
    obtain ⟨x, r, h1, h2, rfl, rfl⟩ := ok_istore hex
    rw [h1]
    exact pl_st hd hx hb hR hS hl h2 (Or.inl ⟨Or.inl rfl, x, rfl⟩) kk
  case istore_n k =>
    obtain ⟨x, r, h1, h2, rfl, rfl⟩ := ok_istore hex
    rw [h1]
    exact pl_st hd hx hb hR hS hl h2 (Or.inl ⟨Or.inr ⟨k, rfl, rfl⟩, x, rfl⟩) kk
  case astore k =>
    obtain ⟨x, r, h1, h2, rfl, rfl⟩ := ok_astore hex
    rw [h1]
    exact pl_st hd hx hb hR hS hl h2 (Or.inr ⟨Or.inl rfl, x, rfl⟩) kk
  case astore_n k =>
    obtain ⟨x, r, h1, h2, rfl, rfl⟩ := ok_astore hex
    rw [h1]
    exact pl_st hd hx hb hR hS hl h2 (Or.inr ⟨Or.inr ⟨k, rfl, rfl⟩, x, rfl⟩) kk
  case lstore k =>
    obtain ⟨x, r, h1, h2, rfl, rfl⟩ := ok_lstore hex
    rw [h1]
    obtain ⟨ls', e', h'⟩ := lr_store2 (x := x) hl h2
    intro T hT X
    obtain ⟨t, a1, b1⟩ := kk H locs ls' hR hS h' T hT X
    refine ⟨t, ?_, b1⟩
    simp only [ilen] at hd a1
    simp only [List.map_cons, rv]
    jvm_step X.here [X.here.top, ↓top_set X.here.top, hx, hb, hd, e']
    exact a1
  case lstore_n k =>
    obtain ⟨x, r, h1, h2, rfl, rfl⟩ := ok_lstore hex
    rw [h1]
    obtain ⟨ls', e', h'⟩ := lr_store2 (x := x) hl h2
    intro T hT X
    obtain ⟨t, a1, b1⟩ := kk H locs ls' hR hS h' T hT X
    refine ⟨t, ?_, b1⟩
    simp only [ilen] at hd a1
    simp only [List.map_cons, rv]
    jvm_step X.here [X.here.top, ↓top_set X.here.top, hx, hb, hd, e']
    exact a1
  case iinc k z =>
    obtain ⟨x, h1, h2, rfl, rfl⟩ := ok_iinc hex
    have hg := hl.at h1
    obtain ⟨ls', e', h'⟩ := lr_store1 (v := .int (x + c32 z)) hl h2 (Or.inl ⟨_, rfl⟩)
    simp only [rv] at e' hg
    rw [← c32_eq] at e'
    intro T hT X
    obtain ⟨t, a1, b1⟩ := kk H locs ls' hR hS h' T hT X
    refine ⟨t, ?_, b1⟩
    simp only [ilen] at hd a1
    jvm_step X.here [X.here.top, ↓top_set X.here.top, hx, hb, hd, hg, e']
    exact a1
  case iadd =>
    obtain ⟨x, y, r, h1, rfl, rfl⟩ := ok_ii hex
    rw [h1]
    exact lv_iadd hx hb hd (kk H locs ls hR hS hl)
  case isub =>
    obtain ⟨x, y, r, h1, rfl, rfl⟩ := ok_ii hex
    rw [h1]
    exact lv_isub hx hb hd (kk H locs ls hR hS hl)
  case imul =>
    obtain ⟨x, y, r, h1, rfl, rfl⟩ := ok_ii hex
    rw [h1]
    exact lv_imul hx hb hd (kk H locs ls hR hS hl)
  case iand =>
    obtain ⟨x, y, r, h1, rfl, rfl⟩ := ok_ii hex
    rw [h1]
    exact lv_iand hx hb hd (kk H locs ls hR hS hl)
  case ior =>
    obtain ⟨x, y, r, h1, rfl, rfl⟩ := ok_ii hex
    rw [h1]
    exact lv_ior hx hb hd (kk H locs ls hR hS hl)
  case ixor =>
    obtain ⟨x, y, r, h1, rfl, rfl⟩ := ok_ii hex
    rw [h1]
    exact lv_ixor hx hb hd (kk H locs ls hR hS hl)
  case ishl =>
    obtain ⟨x, y, r, h1, rfl, rfl⟩ := ok_ii hex
    rw [h1]
    exact lv_ishl hx hb hd (kk H locs ls hR hS hl)
  case ishr =>
    obtain ⟨x, y, r, h1, rfl, rfl⟩ := ok_ii hex
    rw [h1]
    exact lv_ishr hx hb hd (kk H locs ls hR hS hl)
  case iushr =>
    obtain ⟨x, y, r, h1, rfl, rfl⟩ := ok_ii hex
    rw [h1]
    exact lv_iushr hx hb hd rfl (kk H locs ls hR hS hl)
  case l2i =>
    obtain ⟨x, r, h1, rfl, rfl⟩ := ok_l hex
    rw [h1]
    exact lv_l2i hx hb hd rfl (kk H locs ls hR hS hl)
  case ldc2_w x =>
    cases hex
    exact lv_ldc2 hx hb hown (hgw _ (lc_spec ha)) hd (kk H locs ls hR hS hl)
  case idiv =>
    obtain ⟨x, y, r, h1, rfl, rfl⟩ := ok_iid hex
    rw [h1]
    exact lv_idiv hx hb hd (hc _ rfl) (kk H locs ls hR hS hl)
  case irem =>
    obtain ⟨x, y, r, h1, rfl, rfl⟩ := ok_iid hex
    rw [h1]
    exact lv_irem hx hb hd (hc _ rfl) (kk H locs ls hR hS hl)
  case ineg =>
    obtain ⟨x, r, h1, rfl, rfl⟩ := ok_i hex
    rw [h1]
    exact lv_ineg hx hb hd (kk H locs ls hR hS hl)
  case i2l =>
    obtain ⟨x, r, h1, rfl, rfl⟩ := ok_i hex
    rw [h1]
    exact lv_i2l hx hb hd rfl (kk H locs ls hR hS hl)
  case ladd =>
    obtain ⟨x, y, r, h1, rfl, rfl⟩ := ok_ll hex
    rw [h1]
    exact lv_ladd hx hb hd (kk H locs ls hR hS hl)
  case lsub =>
    obtain ⟨x, y, r, h1, rfl, rfl⟩ := ok_ll hex
    rw [h1]
    exact lv_lsub hx hb hd (kk H locs ls hR hS hl)
  case lmul =>
    obtain ⟨x, y, r, h1, rfl, rfl⟩ := ok_ll hex
    rw [h1]
    exact lv_lmul hx hb hd (kk H locs ls hR hS hl)
  case ldiv =>
    obtain ⟨x, y, r, h1, rfl, rfl⟩ := ok_lld hex
    rw [h1]
    exact lv_ldiv hx hb hd (hc _ rfl) (kk H locs ls hR hS hl)
  case lrem =>
    obtain ⟨x, y, r, h1, rfl, rfl⟩ := ok_lld hex
    rw [h1]
    exact lv_lrem hx hb hd (hc _ rfl) (kk H locs ls hR hS hl)
  case lneg =>
    obtain ⟨x, r, h1, rfl, rfl⟩ := ok_l hex
    rw [h1]
    exact lv_lneg hx hb hd (kk H locs ls hR hS hl)
  case lcmp =>
    simp only [ex1, x_lcmp] at hex
    split at hex
    · rename_i y x r h1
      cases hex
      rw [h1]
      exact W.lcmp hx hb hd (kk H locs ls hR hS hl)
    · cases hex
  case dup =>
    simp only [ex1, x_dup] at hex
    split at hex
    · rename_i v r h1
      split at hex
      · rename_i hv
        cases hex
        rw [h1]
        exact lv_dup hx hb hd (cat1_rv hv) (kk H locs ls hR hS hl)
      · cases hex
    · cases hex
  case dup_x1 =>
    simp only [ex1, x_dupx1] at hex
    split at hex
    · rename_i v w r h1
      split at hex
      · rename_i hv
        rw [Bool.and_eq_true] at hv
        cases hex
        rw [h1]
        exact lv_dup_x1 hx hb hd (cat1_rv hv.1) (cat1_rv hv.2) (kk H locs ls hR hS hl)
      · cases hex
    · cases hex
  case dup2 =>
    simp only [ex1, x_dup2] at hex
    split at hex
    · rename_i v w r h1
      split at hex
      · rename_i hv
        rw [Bool.and_eq_true] at hv
        cases hex
        rw [h1]
        exact lv_dup2_11 hx hb hd (cat1_rv hv.1) (cat1_rv hv.2) (kk H locs ls hR hS hl)
      · cases hex
    · cases hex
  case getstatic x =>
    cases hex
    obtain ⟨hw, h3⟩ := sl_spec ha
    rcases hw with hw | hw
    · exact va_gets hx hb (hz a h3) hS hown (hgw _ hw) (fun _ h => h) hd (kk H locs ls hR hS hl)
    · exact va_getsN hx hb (hz a h3) hS hown (va_Nw.use rfl (hnw _ hw)) (fun _ h => h) hd (kk H locs ls hR hS hl)
  case getfield x =>
    simp only [ex1, x_get] at hex
    split at hex
    · rename_i o r h1
      split at hex
      · rename_i ci hsh
        split at hex
        · rename_i hci
          obtain ⟨rfl, hon⟩ := hci
          cases hex
          rw [h1]
          obtain ⟨hw, h7, hbn⟩ := fl_spec ha
          have hent : (wl n ad cA s1.2.2.2)[o]? = some (ad o, .inr (ci, (List.range (nf ci)).map (fval ad s1.2.2.2 ci o))) := by
            rw [wl_at hon, went, hsh]
          have hv : ((List.range (nf ci)).map (fval ad s1.2.2.2 ci o))[b]? = some (rv ad (rdf s1.2.2.2 ci o b)) := by
            simp [hbn, fval]
          rcases hw with hw | hw
          · exact va_get hx hb hgw (lay_ok ci h7) hown hR.2.2.1 hR.1 o hent (cl_at ci h7) b hbn (hgw _ hw) (fun x h => h) hv hd (kk H locs ls hR hS hl)
          · exact va_getN hx hb hgw (lay_ok ci h7) hown hR.2.2.1 hR.1 o hent (cl_at ci h7) b hbn (va_Nw.use rfl (hnw _ hw)) (fun x h => h) hv hd (kk H locs ls hR hS hl)
        · cases hex
      · cases hex
    · cases hex
  case putfield x =>
    simp only [ex1, x_put] at hex
    split at hex
    · rename_i v o r h1
      split at hex
      · rename_i ci hsh
        split at hex
        · rename_i hci
          obtain ⟨rfl, hon⟩ := hci
          simp only [annOk, Bool.and_eq_true] at ha
          obtain ⟨hfl, hfin⟩ := ha
          obtain ⟨hw, h7, hbn⟩ := fl_spec2 hfl
          have hent : (wl n ad cA s1.2.2.2)[o]? = some (ad o, .inr (ci, (List.range (nf ci)).map (fval ad s1.2.2.2 ci o))) := by
            rw [wl_at hon, went, hsh]
          have hlen : b < ((List.range (nf ci)).map (fval ad s1.2.2.2 ci o)).length := by simpa using hbn
          obtain ⟨t0, t1, t3, t2⟩ := fty_ty ci h7 b hbn
          have key : ∀ (M' : Mem) (ty : FieldType), parseFieldDescriptor (TT ci b).2.2.1 = some ty → narrow ty (rv ad v) = rv ad v → fits ty (rv ad v) = true → rdf M' ci o b = v → (∀ j, j ≠ b → rdf M' ci o j = rdf s1.2.2.2 ci o j) →
              (∀ j, j ≠ o → M'.1 j = s1.2.2.2.1 j ∧ M'.2.1 j = s1.2.2.2.2.1 j ∧ M'.2.2 j = s1.2.2.2.2.2 j) → s2 = (s1.1, s1.2.1, r, M') →
              W p l e R s m args below meth c H locs cells slots Q (F0 m pc ls (s1.2.2.1.map (rv ad))) := by
            intro M' ty e1 e2 e3 e4 e5 e6 e7
            subst e7
            rw [h1]
            have hset : (wl n ad cA s1.2.2.2).set o (ad o, .inr (ci, ((List.range (nf ci)).map (fval ad s1.2.2.2 ci o)).set b (rv ad v))) = wl n ad cA M' := by
              rw [fval_set e4 e5]
              refine wl_set ?_ (fun j hj => went_o (e6 j hj).1 (e6 j hj).2.1 (e6 j hj).2.2)
              rw [went, hsh]
            by_cases hf : (TT ci b).2.2.2 = true
            · have hf2 : ((Y.1.name == "<init>") && ci == Y.2.2.2.2.2.2) = true := by
                rw [hf] at hfin
                simpa using hfin
              rw [Bool.and_eq_true] at hf2
              have hcn : ci = Y.2.2.2.2.2.2 := by simpa using hf2.2
              refine va_putF hx hb hgw (lay_ok ci h7) (tyT ci) (tyT_ok ci h7) (nm_ok ci h7) hown hR.2.2.1 hR.1 hR.2.1 hS o hent (cl_at ci h7) b hbn (hgw _ hw) (fun x h => h) hf (hini hf2.1) (by rw [own_ok ci h7 b hbn, hcn]) e1 e2 e3 hlen hd (fun H1 locs1 g1 g2 g3 => ?_)
              rw [hset] at g1 g2
              exact kk H1 locs1 ls ⟨g1, g2, hR.2.2⟩ g3 hl
            · have hf' : (TT ci b).2.2.2 = false := by simpa using hf
              refine va_put hx hb hgw (lay_ok ci h7) (tyT ci) (tyT_ok ci h7) (nm_ok ci h7) hown hR.2.2.1 hR.1 hR.2.1 hS o hent (cl_at ci h7) b hbn (hgw _ hw) (fun x h => h) hf' e1 e2 e3 hlen hd (fun H1 locs1 g1 g2 g3 => ?_)
              rw [hset] at g1 g2
              exact kk H1 locs1 ls ⟨g1, g2, hR.2.2⟩ g3 hl
          split at hex
          · rename_i x hft
            cases hex
            refine key _ .int (t0 hft) rfl rfl ?_ ?_ ?_ rfl
            · simp only [rdf, hft]; exact congrArg Value.int u2_s
            · intro j hj
              have : u2 s1.2.2.2.1 o b x o j = s1.2.2.2.1 o j := u2_k hj
              simp only [rdf, this]
            · intro j hj
              exact ⟨u2_row hj, rfl, rfl⟩
          · rename_i x hft
            cases hex
            have hx01 := hc _ rfl
            refine key _ .boolean (t3 hft) (nar_bool hx01).2.1 (nar_bool hx01).2.2 ?_ ?_ ?_ rfl
            · simp only [rdf, hft]; exact congrArg Value.int u2_s
            · intro j hj
              have : u2 s1.2.2.2.1 o b x o j = s1.2.2.2.1 o j := u2_k hj
              simp only [rdf, this]
            · intro j hj
              exact ⟨u2_row hj, rfl, rfl⟩
          · rename_i x hft
            cases hex
            refine key _ .long (t1 hft) rfl rfl ?_ ?_ ?_ rfl
            · simp only [rdf, hft]; exact congrArg Value.long u2_s
            · intro j hj
              have : u2 s1.2.2.2.2.1 o b x o j = s1.2.2.2.2.1 o j := u2_k hj
              simp only [rdf, this]
            · intro j hj
              exact ⟨rfl, u2_row hj, rfl⟩
          · rename_i x hft
            cases hex
            obtain ⟨ty, g1, g2, g3⟩ := t2 hft
            refine key _ ty g1 (g3 _) (g2 _) ?_ ?_ ?_ rfl
            · simp only [rdf, hft]; exact u2_s
            · intro j hj
              have : u2 s1.2.2.2.2.2 o b (.ref x) o j = s1.2.2.2.2.2 o j := u2_k hj
              simp only [rdf, this]
            · intro j hj
              exact ⟨rfl, rfl, u2_row hj⟩
          · cases hex
        · cases hex
      · cases hex
    · cases hex
  case iaload =>
    simp only [ex1, x_ald] at hex
    split at hex
    · rename_i i o r h hs h1 h0
      split at hex
      · rename_i N f hrf
        cases hex
        obtain ⟨e1, e2⟩ := hc _ rfl
        obtain ⟨hN, -, hT⟩ := hro _ _ _ hrf
        obtain ⟨e3, e4⟩ := vpin_of e1 e2 hN
        rw [h1]
        exact va_ti hx hb hT hS e3 (v := .int (f h)) (by rw [e4]) hd (kk H locs ls hR hS hl)
      · split at hex
        · rename_i b N hsh
          split at hex
          · rename_i hbo
            obtain ⟨rfl, hon⟩ := hbo
            cases hex
            obtain ⟨e1, e2⟩ := hc _ rfl
            obtain ⟨e3, e4⟩ := vpin_of e1 e2 (sh_small _ _ _ hsh)
            have hent : (wl n ad cA s1.2.2.2)[o]? = some (ad o, .inl (cA o, N, .inl (s1.2.2.2.1 o))) := by
              rw [wl_at hon, went, hsh]
            rw [h1]
            refine va_iald hx hb (hR.kty hon hsh) hR.1 o 0 hent rfl e3 hd ?_
            rw [e4]
            exact kk H locs ls hR hS hl
          · cases hex
        · cases hex
    · cases hex
  case baload =>
    simp only [ex1, x_ald] at hex
    split at hex
    · rename_i i o r h hs h1 h0
      split at hex
      · rename_i N f hrf
        cases hex
      · split at hex
        · rename_i b N hsh
          split at hex
          · rename_i hbo
            obtain ⟨rfl, hon⟩ := hbo
            cases hex
            obtain ⟨e1, e2⟩ := hc _ rfl
            obtain ⟨e3, e4⟩ := vpin_of e1 e2 (sh_small _ _ _ hsh)
            have hent : (wl n ad cA s1.2.2.2)[o]? = some (ad o, .inl (cA o, N, .inl (s1.2.2.2.1 o))) := by
              rw [wl_at hon, went, hsh]
            rw [h1]
            refine va_zald hx hb (hR.kty hon hsh) hR.1 o 0 hent rfl e3 hd ?_
            rw [e4]
            exact kk H locs ls hR hS hl
          · cases hex
        · cases hex
    · cases hex
  case iastore =>
    simp only [ex1, x_ast] at hex
    split at hex
    · rename_i x i o r h hs h1 h0
      split at hex
      · rename_i b N hsh
        split at hex
        · rename_i hbo
          obtain ⟨rfl, hon⟩ := hbo
          cases hex
          obtain ⟨e1, e2⟩ := hc _ rfl
          obtain ⟨e3, e4⟩ := vpin_of e1 e2 (sh_small _ _ _ hsh)
          have hent : (wl n ad cA s1.2.2.2)[o]? = some (ad o, .inl (cA o, N, .inl (s1.2.2.2.1 o))) := by
            rw [wl_at hon, went, hsh]
          rw [h1]
          refine va_iast hx hb (hR.kty hon hsh) hR.1 hR.2.1 hS o 0 hent rfl e3 hd (fun H1 locs1 g1 g2 g3 => ?_)
          have hset : (wl n ad cA s1.2.2.2).set o (ad o, .inl (cA o, N, .inl (upd (s1.2.2.2.1 o) h x))) = wl n ad cA (u2 s1.2.2.2.1 o h x, s1.2.2.2.2) := by
            refine wl_set ?_ (fun j hj => went_o (u2_row hj) rfl rfl)
            rw [went, hsh]
            have : u2 s1.2.2.2.1 o h x o = upd (s1.2.2.2.1 o) h x := by
              funext j
              by_cases hj : j = h
              · subst hj
                rw [u2_s, pk_us]
              · rw [u2_k hj, pk_un hj]
            simp only [this]
          rw [e4, hset] at g1 g2
          exact kk H1 locs1 ls ⟨g1, g2, hR.2.2⟩ g3 hl
        · cases hex
      · cases hex
    · cases hex
  case bastore =>
    simp only [ex1, x_ast] at hex
    split at hex
    · rename_i x i o r h hs h1 h0
      split at hex
      · rename_i b N hsh
        split at hex
        · rename_i hbo
          obtain ⟨rfl, hon⟩ := hbo
          cases hex
          obtain ⟨e1, e2, e5⟩ := hc _ rfl
          obtain ⟨e3, e4⟩ := vpin_of e1 e2 (sh_small _ _ _ hsh)
          have hent : (wl n ad cA s1.2.2.2)[o]? = some (ad o, .inl (cA o, N, .inl (s1.2.2.2.1 o))) := by
            rw [wl_at hon, went, hsh]
          rw [h1]
          refine va_zast hx hb (hR.kty hon hsh) hR.1 hR.2.1 hS o 0 hent rfl e3 hd (fun H1 locs1 g1 g2 g3 => ?_)
          have hset : (wl n ad cA s1.2.2.2).set o (ad o, .inl (cA o, N, .inl (upd (s1.2.2.2.1 o) h x))) = wl n ad cA (u2 s1.2.2.2.1 o h x, s1.2.2.2.2) := by
            refine wl_set ?_ (fun j hj => went_o (u2_row hj) rfl rfl)
            rw [went, hsh]
            have : u2 s1.2.2.2.1 o h x o = upd (s1.2.2.2.1 o) h x := by
              funext j
              by_cases hj : j = h
              · subst hj
                rw [u2_s, pk_us]
              · rw [u2_k hj, pk_un hj]
            simp only [this]
          rw [e4, (nar_bool e5).1, hset] at g1 g2
          exact kk H1 locs1 ls ⟨g1, g2, hR.2.2⟩ g3 hl
        · cases hex
      · cases hex
    · cases hex
  case arraylength =>
    simp only [ex1, x_alen] at hex
    split at hex
    · rename_i o r h1
      split at hex
      · rename_i N f hrf
        cases hex
        obtain ⟨hN, -, hT⟩ := hro _ _ _ hrf
        rw [h1]
        exact va_tlen hx hb hT hS (v := nI N) rfl hd (kk H locs ls hR hS hl)
      · split at hex
        · rename_i b N hsh
          split at hex
          · rename_i hon
            cases hex
            have hent : (wl n ad cA s1.2.2.2)[o]? = some (ad o, .inl (cA o, N, .inl (s1.2.2.2.1 o))) := by
              rw [wl_at hon, went, hsh]
            rw [h1]
            exact va_alen hx hb (hR.kty hon hsh) hR.1 o 0 hent rfl (v := nI N) rfl hd (kk H locs ls hR hS hl)
          · cases hex
        · cases hex
    · cases hex
  all_goals cases hex
end BLK
