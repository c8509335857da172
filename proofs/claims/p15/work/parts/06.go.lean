/-! ===== a whole method over the machine ===== -/
def ssz1 (i : Nat) : Nat := match shg SHL i with
  | some (.inl c) => nf c
  | some (.inr (_, N)) => N
  | none => match shg SHL (i - 27) with
    | some (.inl c) => nf c
    | some (.inr (_, N)) => N
    | none => 0
def ssz : Nat → Nat
  | 0 => 0
  | n + 1 => ssz n + ssz1 n
def vst (v : Option Value) : List Value := match v with
  | none => []
  | some v => [v]
def okret (Y : MT) (v : Option Value) : Prop := (v = none ∧ Y.2.2.2.1 = none) ∨ (∃ x, v = some (.int x) ∧ (Y.2.2.2.1 = some .int ∨ (Y.2.2.2.1 = some .boolean ∧ (x = 0 ∨ x = 1)))) ∨ ∃ x, v = some (.long x) ∧ Y.2.2.2.1 = some .long
def retI (v : Option Value) : Instr := match v with
  | none => .return_
  | some (.long _) => .lreturn
  | _ => .ireturn
def agr (n n' : Nat) (ad ad' : Nat → Nat) : Prop := (n' = n → ad' = ad) ∧ ∀ i, (i < n ∨ 39 ≤ i) → ad' i = ad i
/-- from this place the method comes to its end, with an answer and a memory of that kind, n' objects made by then -/
def Go (l : Launch) (ro : RO) (Y : MT) (n : Nat) (M : Mem) (pc : Nat) (L st : List Value) (n' : Nat) (Post : Option Value → Mem → Prop) : Prop :=
  ∀ (p : Program) (e : Env) (R : Room) (s : State) (m : MethodId) (args : Array Value) (below : List Frame) (meth : Method) (c : Code) (A : Nat → Prop) (ad : Nat → Nat) (cA : Nat → ClassId) (D : va_G) (cells slots : Nat) (Q : State → Prop),
    FC ro Y p R s m args meth c A ad → n ≤ 39 → cells + n' ≤ R.cells + n → slots + ssz n' ≤ R.slots + ssz n →
    (∀ (v : Option Value) (M' : Mem) (ad' : Nat → Nat) (cA' : Nat → ClassId) (H' : Heap) (locs' : List Loc) (ls' : Array Slot) (pc' : Nat) (cells' slots' : Nat), Post v M' → okret Y v → decode Y.2.1 pc' = .ok (retI v, 1) → agr n n' ad ad' → (n' ≤ 39 → RelH n' M' ad' cA' D A H' s) → va_S A s.heap H' locs' → cells' + n = cells + n' → slots' + ssz n = slots + ssz n' →
      W p l e R s m args below meth c H' locs' cells' slots' Q (F0 m pc' ls' (vst v))) →
    Pl ro Y p l e R s m args below meth c A ad cA D cells slots Q n pc L st M
section GO
variable {l : Launch} {ro : RO} {Y : MT} {n n' : Nat} {M : Mem} {pc : Nat} {L st : List Value} {Post : Option Value → Mem → Prop}
theorem Go.mono {Post2 : Option Value → Mem → Prop} (h : Go l ro Y n M pc L st n' Post) (hp : ∀ v M', Post v M' → Post2 v M') : Go l ro Y n M pc L st n' Post2 :=
  fun p e R s m args below meth c A ad cA D cells slots Q F hn hc hs K => h p e R s m args below meth c A ad cA D cells slots Q F hn hc hs fun v M' ad' cA' H' locs' ls' pc' cells' slots' h1 => K v M' ad' cA' H' locs' ls' pc' cells' slots' (hp v M' h1)
theorem pl_blk {p : Program} {e : Env} {R : Room} {s : State} {m : MethodId} {args : Array Value} {below : List Frame} {meth : Method} {c : Code} {A : Nat → Prop} {ad : Nat → Nat} {cA : Nat → ClassId} {D : va_G} {cells slots : Nat} {Q : State → Prop} (F : FC ro Y p R s m args meth c A ad) :
    ∀ (b : Blk) (s1 s2 : ST) (C : Prop) (pc pc2 : Nat), codeAt Y.2.1 Y.2.2.2.2.2.2 (Y.1.name == "<init>") pc b = some pc2 → exL ro Y.2.2.1 n b s1 = some (s2, C) → C → Pl ro Y p l e R s m args below meth c A ad cA D cells slots Q n pc2 s2.2.1 s2.2.2.1 s2.2.2.2 → Pl ro Y p l e R s m args below meth c A ad cA D cells slots Q n pc s1.2.1 s1.2.2.1 s1.2.2.2 := by
  intro b
  induction b with
  | nil =>
    intro s1 s2 C pc pc2 h1 h2 hC hk
    cases h1
    cases h2
    exact hk
  | cons i r ih =>
    intro s1 s2 C pc pc2 h1 h2 hC hk
    simp only [codeAt] at h1
    split at h1
    · rename_i hok
      rw [Bool.and_eq_true] at hok
      simp only [exL] at h2
      split at h2
      · cases h2
      · rename_i s3 c1 hex
        split at h2
        · cases h2
        · rename_i s4 c2 hex2
          cases h2
          have hc12 : (∀ q, c1 = some q → q) ∧ c2 := by
            cases c1 with
            | none => exact ⟨fun q h => (by cases h), hC⟩
            | some q => exact ⟨fun q2 h => (by cases h; exact hC.1), hC.2⟩
          have := ih s3 s2 c2 _ pc2 h1 hex2 hc12.2 hk
          intro H locs ls hR hS hl
          exact ex1_ok F (okd_eq hok.1) hok.2 hex hc12.1 hR hS hl this
    · cases h1
theorem go_blk (b : Blk) (hs : List Nat) {pc2 : Nat} {L2 st2 : List Value} {M2 : Mem} {hs2 : List Nat} {C : Prop} (h1 : codeAt Y.2.1 Y.2.2.2.2.2.2 (Y.1.name == "<init>") pc b = some pc2) (h2 : exL ro Y.2.2.1 n b (hs, L, st, M) = some ((hs2, L2, st2, M2), C)) (hC : C) (h : Go l ro Y n M2 pc2 L2 st2 n' Post) : Go l ro Y n M pc L st n' Post :=
  fun p e R s m args below meth c A ad cA D cells slots Q F hn hc hsl K => pl_blk F b (hs, L, st, M) (hs2, L2, st2, M2) C pc pc2 h1 h2 hC (h p e R s m args below meth c A ad cA D cells slots Q F hn hc hsl K)
def tk (c : ClassFile.Cond) (x y : Int32) : Prop := match c with
  | .eq => x = y
  | .ne => ¬ x = y
  | .lt => x < y
  | .ge => y ≤ x
  | .gt => y < x
  | .le => x ≤ y
def ntk (c : ClassFile.Cond) (x y : Int32) : Prop := match c with
  | .eq => ¬ x = y
  | .ne => x = y
  | .lt => ¬ x < y
  | .ge => ¬ y ≤ x
  | .gt => ¬ y < x
  | .le => ¬ x ≤ y
theorem go_cmp {cnd : ClassFile.Cond} {off : Int} {x y : Int32} (tgt : Nat) (hd : okd Y.2.1 pc (.if_icmp cnd off) 3 = true) (ht : (pc : Int) + off = (tgt : Int)) (kt : tk cnd x y → Go l ro Y n M tgt L st n' Post) (kf : ntk cnd x y → Go l ro Y n M (pc + 3) L st n' Post) : Go l ro Y n M pc L (.int y :: .int x :: st) n' Post := by
  intro p e R s m args below meth c A ad cA D cells slots Q F hn hc hs K H locs ls hR hS hl
  have hd := okd_eq hd
  have k1 := fun q => kt q p e R s m args below meth c A ad cA D cells slots Q F hn hc hs K H locs ls hR hS hl
  have k2 := fun q => kf q p e R s m args below meth c A ad cA D cells slots Q F hn hc hs K H locs ls hR hS hl
  cases cnd
  · exact lv_icmp_eq F.1 F.2.1 hd ht k1 k2
  · exact lv_icmp_ne F.1 F.2.1 hd ht k1 k2
  · exact lv_icmp_lt F.1 F.2.1 hd ht k1 k2
  · exact lv_icmp_ge F.1 F.2.1 hd ht k1 k2
  · exact lv_icmp_gt F.1 F.2.1 hd ht k1 k2
  · exact lv_icmp_le F.1 F.2.1 hd ht k1 k2
theorem go_ifz {cnd : ClassFile.Cond} {off : Int} {x : Int32} (tgt : Nat) (hd : okd Y.2.1 pc (.ifCond cnd off) 3 = true) (ht : (pc : Int) + off = (tgt : Int)) (kt : tk cnd x 0 → Go l ro Y n M tgt L st n' Post) (kf : ntk cnd x 0 → Go l ro Y n M (pc + 3) L st n' Post) : Go l ro Y n M pc L (.int x :: st) n' Post := by
  intro p e R s m args below meth c A ad cA D cells slots Q F hn hc hs K H locs ls hR hS hl
  have hd := okd_eq hd
  have k1 := fun q => kt q p e R s m args below meth c A ad cA D cells slots Q F hn hc hs K H locs ls hR hS hl
  have k2 := fun q => kf q p e R s m args below meth c A ad cA D cells slots Q F hn hc hs K H locs ls hR hS hl
  cases cnd
  · exact lv_if_eq F.1 F.2.1 hd ht k1 k2
  · exact lv_if_ne F.1 F.2.1 hd ht k1 k2
  · exact lv_if_lt F.1 F.2.1 hd ht k1 k2
  · exact lv_if_ge F.1 F.2.1 hd ht k1 k2
  · exact lv_if_gt F.1 F.2.1 hd ht k1 k2
  · exact lv_if_le F.1 F.2.1 hd ht k1 k2
theorem go_goto {off : Int} (tgt : Nat) (hd : okd Y.2.1 pc (.goto off) 3 = true) (ht : (pc : Int) + off = (tgt : Int)) (k : Go l ro Y n M tgt L st n' Post) : Go l ro Y n M pc L st n' Post := by
  intro p e R s m args below meth c A ad cA D cells slots Q F hn hc hs K H locs ls hR hS hl
  exact lv_goto F.1 F.2.1 (okd_eq hd) ht (k p e R s m args below meth c A ad cA D cells slots Q F hn hc hs K H locs ls hR hS hl)
theorem go_ret (v : Option Value) (hd : okd Y.2.1 pc (retI v) 1 = true) (hok : okret Y v) (hp : Post v M) : Go l ro Y n M pc L (vst v) n Post := by
  intro p e R s m args below meth c A ad cA D cells slots Q F hn hc hs K H locs ls hR hS hl
  have e : (vst v).map (rv ad) = vst v := by
    rcases hok with ⟨rfl, -⟩ | ⟨x, rfl, -⟩ | ⟨x, rfl, -⟩ <;> rfl
  rw [e]
  exact K v M ad cA H locs ls pc cells slots hp hok (okd_eq hd) ⟨fun _ => rfl, fun _ _ => rfl⟩ (fun _ => hR) hS rfl rfl
theorem go_retv (hd : okd Y.2.1 pc .return_ 1 = true) (hr : Y.2.2.2.1 = none) (hp : Post none M) : Go l ro Y n M pc L [] n Post := go_ret none hd (Or.inl ⟨rfl, hr⟩) hp
theorem go_reti {x : Int32} (hd : okd Y.2.1 pc .ireturn 1 = true) (hr : Y.2.2.2.1 = some .int) (hp : Post (some (.int x)) M) : Go l ro Y n M pc L [.int x] n Post := go_ret (some (.int x)) hd (Or.inr (Or.inl ⟨x, rfl, Or.inl hr⟩)) hp
theorem go_retz {x : Int32} (hd : okd Y.2.1 pc .ireturn 1 = true) (hr : Y.2.2.2.1 = some .boolean) (hx : x = 0 ∨ x = 1) (hp : Post (some (.int x)) M) : Go l ro Y n M pc L [.int x] n Post := go_ret (some (.int x)) hd (Or.inr (Or.inl ⟨x, rfl, Or.inr ⟨hr, hx⟩⟩)) hp
theorem go_retl {x : Int64} (hd : okd Y.2.1 pc .lreturn 1 = true) (hr : Y.2.2.2.1 = some .long) (hp : Post (some (.long x)) M) : Go l ro Y n M pc L [.long x] n Post := go_ret (some (.long x)) hd (Or.inr (Or.inr ⟨x, rfl, hr⟩)) hp
end GO
/-! ===== a method's contract ===== -/
def AF (n : Nat) (ad : Nat → Nat) (sz : Nat) : Nat → Prop := fun q => (∃ i, i < n ∧ q = ad i) ∨ sz ≤ q
def Yw (Y : MT) : List Cond := Cond.code Y.1 Y.2.1 Y.2.2.1 Y.2.2.2.1 :: GW
def PreU (ro : RO) (n : Nat) (M : Mem) (ad : Nat → Nat) (cA : Nat → ClassId) (D : va_G) (sz : Nat) (U : State) : Prop :=
  U.heap.size = sz ∧ RelH n M ad cA D (AF n ad sz) U.heap U ∧ (∀ w ∈ NW, va_Nw w U) ∧ ROok ro ad (AF n ad sz) U ∧ Zok ad (AF n ad sz) U
def QSem (n : Nat) (ad : Nat → Nat) (D : va_G) (sz n' : Nat) (Post : Option Value → Mem → Prop) : Array Value → State → Outcome → State → Prop := fun _ st oc t =>
  (∃ (v : Option Value) (M' : Mem) (ad' : Nat → Nat) (cA' : Nat → ClassId), oc = .returned v ∧ Post v M' ∧ (v = none ∨ (∃ x, v = some (.int x)) ∨ ∃ x, v = some (.long x)) ∧ agr n n' ad ad' ∧ RelH n' M' ad' cA' D (AF n ad sz) t.heap t) ∧ va_F (AF n ad sz) st t
def SemR (l : Launch) (ro : RO) (Y : MT) (as : List Value) (n : Nat) (M : Mem) (n' : Nat) (Post : Option Value → Mem → Prop) : Prop :=
  ∀ (ad : Nat → Nat) (cA : Nat → ClassId) (D : va_G) (sz : Nat), Met l Y.1 (Yw Y) ({ frames := Y.2.2.2.2.1, cells := n' - n, slots := ssz n' - ssz n, locals := Y.2.2.2.2.2.1 }) (va_Pc (as.map (rv ad)) (PreU ro n M ad cA D sz)) (QSem n ad D sz n' Post) (n' - n) (ssz n' - ssz n) (AF n ad sz)
abbrev Sem (l : Launch) (Y : MT) (as : List Value) (n : Nat) (M : Mem) (n' : Nat) (Post : Option Value → Mem → Prop) : Prop := SemR l ro0 Y as n M n' Post
theorem SemR.mono {l : Launch} {ro : RO} {Y : MT} {as : List Value} {n n' : Nat} {M : Mem} {Post Post2 : Option Value → Mem → Prop} (h : SemR l ro Y as n M n' Post) (hp : ∀ v M', Post v M' → Post2 v M') : SemR l ro Y as n M n' Post2 := by
  intro ad cA D sz p e ha hc hk s m args below hf happ hP hK
  obtain ⟨t, o, h1, h2, h3, ⟨h4, h4b⟩, h5⟩ := h ad cA D sz p e ha hc hk s m args below hf happ hP hK
  obtain ⟨v, M', ad', cA', g1, g2, g3⟩ := h4
  exact ⟨t, o, h1, h2, h3, ⟨⟨v, M', ad', cA', g1, hp v M' g2, g3⟩, h4b⟩, h5⟩
