/-! ===== a contract out of a walk ===== -/
def ent (as : List Value) : List Value := as.flatMap fun v => match v with
  | .long x => [.long x, .null]
  | v => [v]
def okA (v : Value) : Bool := match v with
  | .int _ => true
  | .long _ => true
  | .ref _ => true
  | _ => false
theorem ssz_mono {n n' : Nat} (h : n ≤ n') : ssz n ≤ ssz n' := by
  induction n' with
  | zero => rw [show n = 0 by omega]; exact Nat.le_refl _
  | succ k ih =>
    by_cases hk : n = k + 1
    · rw [hk]; exact Nat.le_refl _
    · exact Nat.le_trans (ih (by omega)) (Nat.le_add_right _ _)
theorem lget_rep (k i : Nat) : lget (List.replicate k .null) i = .null := by
  induction k generalizing i with
  | zero => rfl
  | succ k ih =>
    cases i with
    | zero => rfl
    | succ i => exact ih i
theorem ent_args (ad : Nat → Nat) (N : Nat) : ∀ (as : List Value) (k j : Nat) (v : Value), as.all okA = true → lget (ent as ++ List.replicate N .null) j = v → v ≠ .null → (k + j, rv ad v) ∈ lv_args k (as.map (rv ad)) := by
  intro as
  induction as with
  | nil =>
    intro k j v _ h hv
    rw [show ent [] ++ List.replicate N Value.null = List.replicate N .null from rfl, lget_rep] at h
    exact absurd h.symm hv
  | cons a r ih =>
    intro k j v ha h hv
    rw [List.all_cons, Bool.and_eq_true] at ha
    cases a with
    | int x =>
      cases j with
      | zero => subst h; exact List.mem_cons_self
      | succ j =>
        have := ih (k + 1) j v ha.2 h hv
        rw [show k + (j + 1) = k + 1 + j by omega]
        exact List.mem_cons_of_mem _ this
    | ref x =>
      cases j with
      | zero => subst h; exact List.mem_cons_self
      | succ j =>
        have := ih (k + 1) j v ha.2 h hv
        rw [show k + (j + 1) = k + 1 + j by omega]
        exact List.mem_cons_of_mem _ this
    | long x =>
      cases j with
      | zero => subst h; exact List.mem_cons_self
      | succ j =>
        cases j with
        | zero => exact absurd h.symm hv
        | succ j =>
          have := ih (k + 2) j v ha.2 h hv
          rw [show k + (j + 1 + 1) = k + 2 + j by omega]
          exact List.mem_cons_of_mem _ this
    | _ => cases ha.1
theorem ent_len (ad : Nat → Nat) : ∀ as : List Value, as.all okA = true → (lg_sl (as.map (rv ad))).length = (ent as).length := by
  intro as
  induction as with
  | nil => intro _; rfl
  | cons a r ih =>
    intro ha
    rw [List.all_cons, Bool.and_eq_true] at ha
    have := ih ha.2
    cases a <;> first | (cases ha.1; done) | (simp only [lg_sl, ent, List.map_cons, List.flatMap_cons, rv, Value.category, List.length_append] at this ⊢; simp [this])
theorem sem_of_go {l : Launch} {ro : RO} {Y : MT} {as : List Value} {n n' : Nat} {M : Mem} {Post : Option Value → Mem → Prop} (hpl : plainName Y.1.cls = true) (hcl : Y.1.cls = RN Y.2.2.2.2.2.2) (hle : n ≤ n') (hn' : n' ≤ 39) (hok : as.all okA = true) (hlen : (ent as).length ≤ Y.2.2.1)
    (h : Go l ro Y n M 0 (ent as ++ List.replicate (Y.2.2.1 - (ent as).length) .null) [] n' Post) : SemR l ro Y as n M n' Post := by
  have hn : n ≤ 39 := Nat.le_trans hle hn'
  intro ad cA D sz
  refine Met.ofW (cc := Y.2.1) (maxL := Y.2.2.1) (ret := Y.2.2.2.1) hpl rfl ?_
  intro p e s m args below meth c s₁ B hml hv
  obtain ⟨rfl, hsz, hR, hNW, hro, hz⟩ := hv
  have hx := B.exec
  have hb := B.bytes
  have hr := B.returns
  have hts := atoms_spec (ws := Yw Y) B.pre
  have hown := findClass_of_methodNamed B.named
  have hlocks := B.notSynchronized
  subst hsz
  have hm := ssz_mono hle
  rw [lg_entry_eq]
  have hel := ent_len ad as hok
  have hl := lv_entry (as.map (rv ad)) (n := Y.2.2.1) (by rw [hel]; exact hlen)
  refine h p e _ s m (as.map (rv ad)).toArray below meth c (AF n ad s.heap.size) ad cA D 0 0 _ ⟨hx, hb, hml, by rw [← hcl]; exact hown, fun w hw => hts w (List.mem_cons_of_mem _ hw), hNW, fun q hq => Or.inr hq, hro, hz, ⟨Nat.le_refl _, Nat.le_refl _⟩, fun hi => by rw [(name_of_methodNamed B.named B.method).1]; simpa using hi⟩ hn ?_ ?_ ?_ s.heap [] _ hR va_S.rf ⟨hl.1, hl.2.1, by simp; omega, fun i v hv => ?_⟩
  · show 0 + n' ≤ (n' - n) + n
    omega
  · show 0 + ssz n' ≤ (ssz n' - ssz n) + ssz n
    omega
  · intro v M' ad' cA' H' locs' ls' pc' cells' slots' hp hok' hd hag hR' hS' hc' hs'
    have e1 : cells' = n' - n := by omega
    have e2 : slots' = ssz n' - ssz n := by omega
    subst e1; subst e2
    have hq : ∀ (hv : v = none ∨ (∃ x, v = some (.int x)) ∨ ∃ x, v = some (.long x)) (t : State), t.heap = H' → s.WarmedH t.vm → QSem n ad D s.heap.size n' Post (as.map (rv ad)).toArray s (.returned v) t := by
      intro hv t ht hW
      exact ⟨⟨v, M', ad', cA', rfl, hp, hv, hag, by rw [ht]; exact (hR' hn').moved hW.alike⟩, hS'.F ht⟩
    rcases hok' with ⟨rfl, hret⟩ | ⟨x, rfl, hret⟩ | ⟨x, rfl, hret⟩
    · exact W.vret hx hb (by rw [hr]; exact hret) (hq (Or.inl rfl)) hS'.2.2 hd
    · rcases hret with hret | ⟨hret, h01⟩
      · exact W.iret hx hb (by rw [hr]; exact hret) (hq (Or.inr (Or.inl ⟨x, rfl⟩))) hS'.2.2 hd
      · exact W.zret hx hb (by rw [hr]; exact hret) (nar_bool h01).2.1 (hq (Or.inr (Or.inl ⟨x, rfl⟩))) hS'.2.2 hd
    · exact W.lret hx hb (by rw [hr]; exact hret) (hq (Or.inr (Or.inr ⟨x, rfl⟩))) hS'.2.2 hd
  · have hne : v ≠ .null := by
      rcases hv.2 with ⟨x, rfl⟩ | ⟨x, rfl⟩ | ⟨⟨x, rfl⟩, -⟩ <;> exact fun q => by cases q
    have := ent_args ad _ as 0 i v hok hv.1 hne
    rw [Nat.zero_add] at this
    exact hl.2.2 _ this
/-! ===== calls ===== -/
theorem nw_tab {w : Cond} (h : w ∈ NW) : w.onTables = true := by
  have := (List.mem_filter.mp h).2
  split at this <;> first | rfl | cases this
theorem nw_warm {w : Cond} (h : w ∈ NW) {s U : State} (hW : s.WarmedH U.vm) (hz : va_Nw w s) : va_Nw w U := by
  have := (List.mem_filter.mp h).2
  split at this
  · exact va_Nw.warmF hW hz
  · exact va_Nw.warmM hW hz
  · cases this
theorem preU_blind {ro : RO} {n : Nat} {M : Mem} {ad : Nat → Nat} {cA : Nat → ClassId} {D : va_G} {sz : Nat} {as : List Value} : FrameBlind (va_Pc as (PreU ro n M ad cA D sz)) := by
  intro a U g mk h
  obtain ⟨h0, h1, h2, h3, h4, h5⟩ := h
  exact ⟨h0, h1, h2.moved (U := U.calling g mk a) (Vm.Alike.refl U.vm), fun w hw => va_Nw.same (u := U) (U := U.calling g mk a) (nw_tab hw) rfl (h3 w hw), fun o N f hf => ⟨(h4 o N f hf).1, (h4 o N f hf).2.1, (h4 o N f hf).2.2.moved (U := U.calling g mk a) (Vm.Alike.refl U.vm)⟩, fun t ht => (h5 t ht).moved (U := U.calling g mk a) (Vm.Alike.refl U.vm)⟩
section CALL
variable {l : Launch} {ro : RO} {Y : MT} {n n' n2 : Nat} {M : Mem} {pc : Nat} {L st : List Value} {Post Post1 : Option Value → Mem → Prop}
variable {p : Program} {e : Env} {R : Room} {s : State} {m : MethodId} {args : Array Value} {below : List Frame} {meth : Method} {c : Code} {A : Nat → Prop} {ad : Nat → Nat} {cA : Nat → ClassId} {D : va_G} {H : Heap} {locs : List Loc} {cells slots : Nat} {Q : State → Prop} {ls : Array Slot}
theorem af_in (F : FC ro Y p R s m args meth c A ad) (hR : RelH n M ad cA D A H s) (hS : va_S A s.heap H locs) : ∀ q, AF n ad H.size q → A q := by
  intro q h
  rcases h with ⟨i, hi, rfl⟩ | h
  · exact hR.inA hi
  · exact F.2.2.2.2.2.2.1 q (Nat.le_trans hS.1 h)
theorem preU_of {roc : RO} (F : FC ro Y p R s m args meth c A ad) (hro : ∀ o N f, roc o = some (N, f) → ro o = some (N, f)) (hR : RelH n M ad cA D A H s) (hS : va_S A s.heap H locs) {U : State} (hU : U.heap = H) (hW : s.WarmedH U.vm) : PreU roc n M ad cA D H.size U := by
  have haf := af_in F hR hS
  obtain ⟨hx, hb, hml, hown, hgw, hnw, hA, hr, hz, hroom, hini⟩ := F
  refine ⟨by rw [hU], ?_, fun w hw => nw_warm hw hW (hnw w hw), fun o N f hf => ?_, fun t ht => ?_⟩
  · rw [hU]
    obtain ⟨h1, h2, h3, h4⟩ := hR.moved hW.alike
    refine ⟨h1, ⟨h2.1, fun k q hk => Or.inl ?_⟩, h3, h4⟩
    have hkn : k < n := by
      have := (List.getElem?_eq_some_iff.mp hk).1
      simpa [wl] using this
    rw [wl_at hkn] at hk
    cases hk
    exact ⟨k, hkn, rfl⟩
  · obtain ⟨g1, g2, g3⟩ := hr o N f (hro o N f hf)
    refine ⟨g1, g2, ?_⟩
    rw [hU]
    exact ((g3.kept (H1 := H) hS.2.1).narrow haf).moved hW.alike
  · rw [hU]
    exact (((hz t ht).kept (H1 := H) hS.2.1).narrow haf).moved hW.alike
theorem pl_call {st0 : List Value} {a : Array Value} {rest : List Value} (F : FC ro Y p R s m args meth c A ad) (hR : RelH n M ad cA D A H s) (hS : va_S A s.heap H locs)
    (hr : va_Run p l e R s m args below meth c H locs cells slots (n2 - n) (ssz n2 - ssz n) (F0 m pc ls st0) (rest.map (rv ad)) (QSem n ad D H.size n2 Post1 a) (AF n ad H.size))
    (kk : ∀ (v : Option Value) (M2 : Mem) (ad2 : Nat → Nat) (cA2 : Nat → ClassId) (H2 : Heap) (locs2 : List Loc), Post1 v M2 → agr n n2 ad ad2 → (∀ f, (vst v).map (rv f) = vst v) → RelH n2 M2 ad2 cA2 D A H2 s → va_S A s.heap H2 locs2 → W p l e R s m args below meth c H2 locs2 (cells + (n2 - n)) (slots + (ssz n2 - ssz n)) Q (F0 m (pc + 3) ls (vst v ++ rest.map (rv ad)))) :
    W p l e R s m args below meth c H locs cells slots Q (F0 m pc ls st0) := by
  have haf := af_in F hR hS
  intro T hT X
  obtain ⟨v, st₀, t, T', L, h0, X', hL, e1, e2, ⟨⟨v', M2, ad2, cA2, hv, hp, hk, hag, hR2⟩, hz, hq⟩, stp⟩ := hr T hT X
  cases hv
  rw [h0] at hz hq
  have hS2 : va_S A s.heap T'.heap (locs ++ L) := ⟨Nat.le_trans hS.1 (by rw [e1]; exact hz), fun q h1 h2 => by rw [e1, hq q (Nat.lt_of_lt_of_le h1 hS.1) (fun z => h2 (haf q z))]; exact hS.2.1 q h1 h2, fun q hq => by
      rcases List.mem_append.mp hq with h | h
      · exact hS.2.2 q h
      · exact haf _ (hL q h)⟩
  have hR3 : RelH n2 M2 ad2 cA2 D A T'.heap s := by
    rw [e1]
    obtain ⟨g1, g2, g3, g4⟩ := hR2.moved (U := s) (by rw [← e2]; exact X'.warmed.alike.symm)
    exact ⟨g1, ⟨g2.1, fun k q hk => haf _ (g2.2 k q hk)⟩, g3, g4⟩
  have hvv : ∀ f, (vst v).map (rv f) = vst v := by
    intro f
    rcases hk with rfl | ⟨x, rfl⟩ | ⟨x, rfl⟩ <;> rfl
  obtain ⟨t2, a1, b1⟩ := kk v M2 ad2 cA2 T'.heap (locs ++ L) hp hag hvv hR3 hS2 T' rfl X'
  refine ⟨t2, stp t2 ?_, b1⟩
  have : v.toList = vst v := by cases v <;> rfl
  rw [this]
  exact a1
end CALL
