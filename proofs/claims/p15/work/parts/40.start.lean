def R_law : String := "RationDeskLaw"
def lw_P (b : Addr) (xs : List Int32) (args : Array Value) (s : State) : Prop := args = #[.ref b] ∧ s.IntsAt b xs ∧ xs.length ≤ 260 ∧ (Jvm.Cond.and given_1 narrow_1).before args s = true
def lw_Q (_ : Array Value) (s : State) (o : Outcome) (t : State) : Prop := o = .returned (some (.int 1)) ∧ Framed s o t [] 600000 7302250
def lw_Z (below : List Frame) (a : Array Value) (s : State) : State → Prop := fun t => ∃ o, t.status = .running ∧ Ended t below o ∧ lw_Q a s o t
/-- the law's own end, with 1 on the stack, nothing written that was there before, its room as the claim has it -/
theorem lw_ret {p : Program} {l : Launch} {e : Env} {s : State} {m : MethodId} {below : List Frame} {meth : Method} {c : Code} {b : Nat} (hx : p.tables.exec = Jvm.exec) (hb : c.code = code) (hr : meth.sig.returnType = ret) (hlocks : meth.locks = false) {pc : Nat} {H : Heap} {ls : Array Slot} (hdg : decode code pc = .ok (.ireturn, 1)) : W p l e room_1 s m #[Value.ref b] below meth c H [] 600000 7302250 (lw_Z below #[Value.ref b] s) (F0 m pc ls [.int 1]) := by
  intro T hT X
  obtain ⟨fs, hret, hrun, hended, hW, hframe⟩ := X.leave (v := some (.int 1)) (hlocks := hlocks) (fun h => by rw [hr] at h; cases h)
  have hmeth' : T.vm.method? m = some meth := X.method'
  refine ⟨T.setFrames fs, ?_, .returned (some (.int 1)), hrun, hended, rfl, ⟨_, rfl⟩, hW, hframe⟩
  jvm_step X.here [X.here.top, hx, hb, hdg, hmeth', hr, ret, narrow_b1]
  (try refine ⟨rfl, ?_⟩); (try refine ⟨rfl, ?_⟩)
  first | (intro acts; rw [hret _ acts rfl rfl rfl]) | rw [hret _ _ rfl rfl rfl]
  exact Steps.refl _
/-- what holds at the law's entry: the machine, the code, the tables' words (any of lw_tbl by 'hts w (by decide +kernel)'), the script of L ints xs at the cell b, what the Statement gives of the start (any of its parts by flat_of_before) -/
def lw_At (p : Program) (s : State) (m : MethodId) (meth : Method) (c : Code) (b L : Nat) (xs : Nat → Int32) : Prop :=
  p.tables.exec = Jvm.exec ∧ c.code = code ∧ meth.sig.returnType = ret ∧ c.maxLocals = 6 ∧ s.vm.findClass R_law = some m.cls ∧ (∀ w ∈ lw_tbl, w.before #[Value.ref b] s = true) ∧ va_X b L xs s s.heap ∧ b < s.heap.size ∧ meth.locks = false ∧ (Jvm.Cond.and given_1 narrow_1).before #[Value.ref b] s = true
theorem in_0 : Cond.instantiable (RN 0) (nf 0) ∈ lw_tbl := List.mem_of_getElem? (i := 33) (by decide +kernel)
theorem in_1 : Cond.instantiable (RN 1) (nf 1) ∈ lw_tbl := List.mem_of_getElem? (i := 133) (by decide +kernel)
theorem in_2 : Cond.instantiable (RN 2) (nf 2) ∈ lw_tbl := List.mem_of_getElem? (i := 69) (by decide +kernel)
theorem in_3 : Cond.instantiable (RN 3) (nf 3) ∈ lw_tbl := List.mem_of_getElem? (i := 88) (by decide +kernel)
theorem in_4 : Cond.instantiable (RN 4) (nf 4) ∈ lw_tbl := List.mem_of_getElem? (i := 150) (by decide +kernel)
theorem in_5 : Cond.instantiable (RN 5) (nf 5) ∈ lw_tbl := List.mem_of_getElem? (i := 25) (by decide +kernel)
theorem in_k : ∀ k, k < 6 → Cond.instantiable (RN k) (nf k) ∈ lw_tbl := by
  intro c hc
  rcases (show c = 0 ∨ c = 1 ∨ c = 2 ∨ c = 3 ∨ c = 4 ∨ c = 5 by omega) with rfl | rfl | rfl | rfl | rfl | rfl
  · exact in_0
  · exact in_1
  · exact in_2
  · exact in_3
  · exact in_4
  · exact in_5
theorem in_i : Cond.initialized "RationDesk" ∈ lw_tbl := List.mem_of_getElem? (i := 17) (by decide +kernel)
theorem in_100 : Cond.laysStatic "RationDesk" "PAIR_LEFT" "[I" ∈ lw_tbl := List.mem_of_getElem? (i := 94) (by decide +kernel)
theorem na_100 : Cond.arrayOf (.static "RationDesk" "PAIR_LEFT" "[I") .int ∈ flatC (Jvm.Cond.and given_1 narrow_1) := by decide +kernel
theorem nl_100 : Cond.eq (.length (.static "RationDesk" "PAIR_LEFT" "[I")) (.int (Int32.ofNat 3)) ∈ flatC (Jvm.Cond.and given_1 narrow_1) := by decide +kernel
theorem ne_100 : ∀ j, j < 3 → Cond.eq (.elem (.static "RationDesk" "PAIR_LEFT" "[I") (.int (Int32.ofNat j))) (.int (rov 100 j)) ∈ flatC (Jvm.Cond.and given_1 narrow_1) := by decide +kernel
theorem in_101 : Cond.laysStatic "RationDesk" "PAIR_RIGHT" "[I" ∈ lw_tbl := List.mem_of_getElem? (i := 100) (by decide +kernel)
theorem na_101 : Cond.arrayOf (.static "RationDesk" "PAIR_RIGHT" "[I") .int ∈ flatC (Jvm.Cond.and given_1 narrow_1) := by decide +kernel
theorem nl_101 : Cond.eq (.length (.static "RationDesk" "PAIR_RIGHT" "[I")) (.int (Int32.ofNat 3)) ∈ flatC (Jvm.Cond.and given_1 narrow_1) := by decide +kernel
theorem ne_101 : ∀ j, j < 3 → Cond.eq (.elem (.static "RationDesk" "PAIR_RIGHT" "[I") (.int (Int32.ofNat j))) (.int (rov 101 j)) ∈ flatC (Jvm.Cond.and given_1 narrow_1) := by decide +kernel
theorem in_102 : Cond.laysStatic "RationDesk" "GROUPS" "[I" ∈ lw_tbl := List.mem_of_getElem? (i := 276) (by decide +kernel)
theorem na_102 : Cond.arrayOf (.static "RationDesk" "GROUPS" "[I") .int ∈ flatC (Jvm.Cond.and given_1 narrow_1) := by decide +kernel
theorem nl_102 : Cond.eq (.length (.static "RationDesk" "GROUPS" "[I")) (.int (Int32.ofNat 15)) ∈ flatC (Jvm.Cond.and given_1 narrow_1) := by decide +kernel
theorem ne_102 : ∀ j, j < 15 → Cond.eq (.elem (.static "RationDesk" "GROUPS" "[I") (.int (Int32.ofNat j))) (.int (rov 102 j)) ∈ flatC (Jvm.Cond.and given_1 narrow_1) := by decide +kernel
/-- the three rows that the class's statics hold -/
theorem st_of {args : Array Value} {s : State} {A : Nat → Prop} {n : String} {N t : Nat} (hgv : (Jvm.Cond.and given_1 narrow_1).before args s = true) (hN : N < 2 ^ 31) (ha : Cond.arrayOf (.static "RationDesk" n "[I") .int ∈ flatC (Jvm.Cond.and given_1 narrow_1)) (hl : Cond.eq (.length (.static "RationDesk" n "[I")) (.int (Int32.ofNat N)) ∈ flatC (Jvm.Cond.and given_1 narrow_1)) (he : ∀ j, j < N → Cond.eq (.elem (.static "RationDesk" n "[I") (.int (Int32.ofNat j))) (.int (rov t j)) ∈ flatC (Jvm.Cond.and given_1 narrow_1)) (hts : ∀ w ∈ lw_tbl, w.before args s = true) (hly : Cond.laysStatic "RationDesk" n "[I" ∈ lw_tbl) (hA : ∀ a : Nat, a < s.heap.size → ¬ A a) : ∃ a : Nat, va_T .int a N (fun j => .int (rov t j)) A s s.heap ∧ va_Z "RationDesk" n "[I" (.ref a) A s s.heap := by
  have hfl := flat_of_before _ hgv
  obtain ⟨a, e, T⟩ := va_Tof (tm := .static "RationDesk" n "[I") (ty := .int) (N := N) (f := fun j => .int (rov t j)) (A := A) hN (hfl _ ha) (va_eqt (hfl _ hl)) (fun j hj => va_eqt (hfl _ (he j hj))) hA
  exact ⟨a, T, va_Zref (hts _ hly) (hts _ in_i) e hA⟩
def adS (a b c d : Nat) : Nat → Nat := fun i => match i with
  | 100 => a
  | 101 => b
  | 102 => c
  | _ => d
theorem ro1_no {N : Nat} {xs : Nat → Int32} {o : Nat} (h0 : o ≠ 100) (h1 : o ≠ 101) (h2 : o ≠ 102) (h3 : o ≠ 103) : ro1 N xs o = none := by
  unfold ro1 ro0
  split
  · exact absurd rfl h3
  · split
    · exact absurd rfl h0
    · exact absurd rfl h1
    · exact absurd rfl h2
    · rfl
set_option maxRecDepth 100000 in
set_option maxHeartbeats 4000000 in
theorem ro_start {s : State} {a b c d N : Nat} {xs : Nat → Int32} {A : Nat → Prop} (hN : N < 2 ^ 31) (h0 : va_T .int a 3 (fun j => .int (rov 100 j)) A s s.heap) (h1 : va_T .int b 3 (fun j => .int (rov 101 j)) A s s.heap) (h2 : va_T .int c 15 (fun j => .int (rov 102 j)) A s s.heap) (h3 : va_T .int d N (fun j => .int (xs j)) A s s.heap) : ROok (ro1 N xs) (adS a b c d) A s := by
  intro o M f h
  by_cases e0 : o = 100
  · subst e0
    cases h
    exact ⟨by decide, by decide, h0⟩
  · by_cases e1 : o = 101
    · subst e1
      cases h
      exact ⟨by decide, by decide, h1⟩
    · by_cases e2 : o = 102
      · subst e2
        cases h
        exact ⟨by decide, by decide, h2⟩
      · by_cases e3 : o = 103
        · subst e3
          cases h
          exact ⟨hN, by decide, h3⟩
        · rw [ro1_no e0 e1 e2 e3] at h
          cases h
theorem ssz_54 : ssz 54 = 4922 := by decide +kernel
theorem ssz_00 : ssz 0 = 0 := rfl
theorem kn_D {s : State} {args : Array Value} (hts : ∀ w ∈ lw_tbl, w.before args s = true) : ∃ D : va_G, va_K D vwCl [] s := by
  have hgw : ∀ w ∈ GW, w.before args s = true := fun w hw => hts w (List.mem_filter.mp hw).1
  have h0 : ∀ k, ∃ q : ClassId × (Nat → Nat), k < 6 → u_Kn s (RN k) (TT k) (nf k) q.1 q.2 := by
    intro k
    by_cases hk : k < 6
    · obtain ⟨c, i, h⟩ := u_known (C := RN k) (T := TT k) (N := nf k) (n := nf k) hgw (lay_ok k hk) (hts _ (in_k k hk))
      exact ⟨(c, i), fun _ => h⟩
    · exact ⟨(Classical.choice ⟨(u_known (C := RN 0) (T := TT 0) (N := nf 0) (n := nf 0) hgw (lay_ok 0 (by decide)) (hts _ in_0)).choose⟩, fun _ => 0), fun h => absurd h hk⟩
  obtain ⟨q, hq⟩ := Classical.axiomOfChoice h0
  refine ⟨(fun k => (q k).1, fun k => (q k).2), fun k r hr => ?_, fun k q h => by simp at h⟩
  by_cases hk : k < 6
  · rw [cl_at k hk] at hr
    cases hr
    exact hq k hk
  · have := (List.getElem?_eq_some_iff.mp hr).1
    exact absurd this hk
set_option maxRecDepth 100000 in
set_option maxHeartbeats 4000000 in
/-- from the entry, for every script of at most 260 ints, the law comes to its end with true -/
theorem whole_start {p : Program} {e : Env} {s : State} {m : MethodId} {below : List Frame} {meth : Method} {c : Code} (l : Launch) (hflags : l.flags = flags0) {b L : Nat} {xs : Nat → Int32} (hL : L ≤ 260) (C0 : lw_At p s m meth c b L xs) : W p l e room_1 s m #[Value.ref b] below meth c s.heap [] 0 0 (lw_Z below #[Value.ref b] s) (entryFrame m ([Value.ref b] : List Value).toArray 6) := by
  obtain ⟨hx, hb, hr, hml, hown, hts, hX, hbl, hlocks, hgv⟩ := C0
  have hA : ∀ a : Nat, a < s.heap.size → ¬ (fun q : Nat => s.heap.size ≤ q) a := fun a h h2 => Nat.not_le.mpr h h2
  obtain ⟨a0, T0, Z0⟩ := st_of hgv (by decide) na_100 nl_100 ne_100 hts in_100 hA
  obtain ⟨a1, T1, Z1⟩ := st_of hgv (by decide) na_101 nl_101 ne_101 hts in_101 hA
  obtain ⟨a2, T2, Z2⟩ := st_of hgv (by decide) na_102 nl_102 ne_102 hts in_102 hA
  have hL2 : L < 2 ^ 31 := by omega
  have T3 : va_T .int b L (fun j => .int (xs j)) (fun q : Nat => s.heap.size ≤ q) s s.heap := by
    obtain ⟨scr, h1, h2, h3, h4, h5⟩ := hX
    exact ⟨scr, h1, h2, h3, by omega, by rw [h4], h5, hA b hbl⟩
  have hRO := ro_start (xs := xs) hL2 T0 T1 T2 T3
  obtain ⟨D, hK⟩ := kn_D hts
  have hZ : Zok (adS a0 a1 a2 b) (fun q : Nat => s.heap.size ≤ q) s := by
    intro t ht
    rcases ht with rfl | rfl | rfl
    · exact Z0
    · exact Z1
    · exact Z2
  have FCl : FC (ro1 L xs) mX6_law p room_1 s m #[Value.ref b] meth c (fun q : Nat => s.heap.size ≤ q) (adS a0 a1 a2 b) :=
    ⟨hx, hb, hml, hown, fun w hw => hts w (List.mem_filter.mp hw).1, fun w hw => va_Nw.of (nw_tab hw) (hts w (List.mem_filter.mp hw).1), fun q h => h, hRO, hZ, by decide, fun h => absurd h (by decide)⟩
  have hl := lv_entry ([.ref b]) (n := 6) (Nat.le_of_ble_eq_true rfl)
  rw [lg_entry_eq]
  refine law_top l L hL2 xs p e room_1 s m #[Value.ref b] below meth c (fun q : Nat => s.heap.size ≤ q) (adS a0 a1 a2 b) (fun _ => Classical.choice ⟨D.1 0⟩) D 0 0 _ FCl (by decide) (by decide) (by rw [ssz_54]; decide) ?_ s.heap [] _ ⟨fun k q h => ?_, ⟨fun i j p q h => ?_, fun k q h => ?_⟩, hK, fun i hi => absurd hi (Nat.not_lt_zero i)⟩ va_S.rf ⟨hl.1, hl.2.1, rfl, fun i v hv => ?_⟩
  · intro v M' ad' cA' H' locs' ls' pc' cells' slots' hp hok hd hag hR' hS' hc' hs'
    have e1 : cells' = 54 := by omega
    have e2 : slots' = 4922 := by rw [ssz_54, ssz_00] at hs'; omega
    subst e1; subst e2
    have hv : v = some (.int 1) := hp
    subst hv
    refine va_forget (fun q hq => hS'.2.2 q hq) ?_
    exact W.widen (k := 600000) (n := 7302250) (Nat.le_of_ble_eq_true rfl) (Nat.le_of_ble_eq_true rfl) (lw_ret hx hb hr hlocks hd)
  · simp [wl] at h
  · simp [wl] at h
  · simp [wl] at h
  · have hne : v ≠ .null := by
      rcases hv.2 with ⟨x, rfl⟩ | ⟨x, rfl⟩ | ⟨⟨x, rfl⟩, -⟩ <;> exact fun q => by cases q
    have := ent_args (adS a0 a1 a2 b) 5 [.ref 103] 0 i v rfl hv.1 hne
    rw [Nat.zero_add] at this
    exact hl.2.2 _ this
