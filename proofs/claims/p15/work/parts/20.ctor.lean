def ZA : Nat → Nat → Int32 := fun _ _ => 0
def ZG : Nat → Nat → Int64 := fun _ _ => 0
def ZP : Nat → Nat → Value := fun _ _ => .null
theorem zer_id {n : Nat} {M : Mem} (h1 : ∀ k, M.1 n k = 0) (h2 : ∀ k, M.2.1 n k = 0) (h3 : ∀ k, M.2.2 n k = .null) : zer n M = M := by
  have e1 : zrow M.1 n 0 = M.1 := by
    funext o k
    unfold zrow
    split
    · rename_i h; rw [h, h1]
    · rfl
  have e2 : zrow M.2.1 n 0 = M.2.1 := by
    funext o k
    unfold zrow
    split
    · rename_i h; rw [h, h2]
    · rfl
  have e3 : zrow M.2.2 n .null = M.2.2 := by
    funext o k
    unfold zrow
    split
    · rename_i h; rw [h, h3]
    · rfl
  unfold zer
  rw [e1, e2, e3]
def MA_0 : Nat → Nat → Int32 := (u2 ZA 1 7 0)
def MP_0 : Nat → Nat → Value := (u2 (u2 (u2 (u2 (u2 (u2 (u2 ZP 1 0 (.ref 2)) 1 1 (.ref 3)) 1 2 (.ref 4)) 1 3 (.ref 5)) 1 4 (.ref 6)) 1 5 (.ref 7)) 1 6 (.ref 8))
set_option maxRecDepth 100000 in
set_option maxHeartbeats 4000000 in
theorem s_X0_init (l : Launch) : Sem l mX0_init [.ref 1] 2 (ZA, ZG, ZP) 9 (pm (MA_0, ZG, MP_0)) := by
  refine sem_of_go (by decide) rfl (by decide) (by decide) rfl (Nat.le_of_ble_eq_true rfl) ?_
  show Go l ro0 mX0_init 2 (ZA, ZG, ZP) 0 [.ref 1] [] 9 (pm (MA_0, ZG, MP_0))
  refine go_blk (pc2 := 1) (L2 := [.ref 1]) (st2 := [.ref 1]) (M2 := (ZA, ZG, ZP)) (hs2 := []) (C := True) [(.aload_n 0, 0, 0)] [] (by decide +kernel) rfl trivial ?_
  refine go_obj (idx := 3) (p1 := 37) (by decide +kernel) (by decide +kernel) ⟨by decide, Nat.le_of_ble_eq_true rfl⟩ ?_
  refine go_blk (pc2 := 6) (L2 := [.ref 1]) (st2 := [.int 5, .ref 1]) (M2 := (ZA, ZG, ZP)) (hs2 := []) (C := True) [(.aload_n 0, 0, 0), (.iconst 5, 0, 0)] [] (by decide +kernel) rfl trivial ?_
  refine go_newarray (b := false) (N := 5) (by decide +kernel) rfl rfl (by decide) (by decide) (by decide +kernel) rfl ?_
  rw [zer_id (n := 2) (M := (ZA, ZG, ZP)) (fun _ => rfl) (fun _ => rfl) (fun _ => rfl)]
  refine go_blk (pc2 := 13) (L2 := [.ref 1]) (st2 := [.int 5, .ref 1]) (M2 := (ZA, ZG, (u2 ZP 1 0 (.ref 2)))) (hs2 := []) (C := True) [(.putfield 9, 0, 0), (.aload_n 0, 0, 0), (.iconst 5, 0, 0)] [] (by decide +kernel) rfl trivial ?_
  refine go_newarray (b := false) (N := 5) (by decide +kernel) rfl rfl (by decide) (by decide) (by decide +kernel) rfl ?_
  rw [zer_id (n := 3) (M := (ZA, ZG, (u2 ZP 1 0 (.ref 2)))) (fun _ => rfl) (fun _ => rfl) (fun _ => rfl)]
  refine go_blk (pc2 := 20) (L2 := [.ref 1]) (st2 := [.int 5, .ref 1]) (M2 := (ZA, ZG, (u2 (u2 ZP 1 0 (.ref 2)) 1 1 (.ref 3)))) (hs2 := []) (C := True) [(.putfield 15, 0, 1), (.aload_n 0, 0, 0), (.iconst 5, 0, 0)] [] (by decide +kernel) rfl trivial ?_
  refine go_newarray (b := false) (N := 5) (by decide +kernel) rfl rfl (by decide) (by decide) (by decide +kernel) rfl ?_
  rw [zer_id (n := 4) (M := (ZA, ZG, (u2 (u2 ZP 1 0 (.ref 2)) 1 1 (.ref 3)))) (fun _ => rfl) (fun _ => rfl) (fun _ => rfl)]
  refine go_blk (pc2 := 27) (L2 := [.ref 1]) (st2 := [.int 5, .ref 1]) (M2 := (ZA, ZG, (u2 (u2 (u2 ZP 1 0 (.ref 2)) 1 1 (.ref 3)) 1 2 (.ref 4)))) (hs2 := []) (C := True) [(.putfield 18, 0, 2), (.aload_n 0, 0, 0), (.iconst 5, 0, 0)] [] (by decide +kernel) rfl trivial ?_
  refine go_newarray (b := false) (N := 5) (by decide +kernel) rfl rfl (by decide) (by decide) (by decide +kernel) rfl ?_
  rw [zer_id (n := 5) (M := (ZA, ZG, (u2 (u2 (u2 ZP 1 0 (.ref 2)) 1 1 (.ref 3)) 1 2 (.ref 4)))) (fun _ => rfl) (fun _ => rfl) (fun _ => rfl)]
  refine go_blk (pc2 := 34) (L2 := [.ref 1]) (st2 := [.int 5, .ref 1]) (M2 := (ZA, ZG, (u2 (u2 (u2 (u2 ZP 1 0 (.ref 2)) 1 1 (.ref 3)) 1 2 (.ref 4)) 1 3 (.ref 5)))) (hs2 := []) (C := True) [(.putfield 21, 0, 3), (.aload_n 0, 0, 0), (.iconst 5, 0, 0)] [] (by decide +kernel) rfl trivial ?_
  refine go_newarray (b := false) (N := 5) (by decide +kernel) rfl rfl (by decide) (by decide) (by decide +kernel) rfl ?_
  rw [zer_id (n := 6) (M := (ZA, ZG, (u2 (u2 (u2 (u2 ZP 1 0 (.ref 2)) 1 1 (.ref 3)) 1 2 (.ref 4)) 1 3 (.ref 5)))) (fun _ => rfl) (fun _ => rfl) (fun _ => rfl)]
  refine go_blk (pc2 := 41) (L2 := [.ref 1]) (st2 := [.int 5, .ref 1]) (M2 := (ZA, ZG, (u2 (u2 (u2 (u2 (u2 ZP 1 0 (.ref 2)) 1 1 (.ref 3)) 1 2 (.ref 4)) 1 3 (.ref 5)) 1 4 (.ref 6)))) (hs2 := []) (C := True) [(.putfield 24, 0, 4), (.aload_n 0, 0, 0), (.iconst 5, 0, 0)] [] (by decide +kernel) rfl trivial ?_
  refine go_newarray (b := false) (N := 5) (by decide +kernel) rfl rfl (by decide) (by decide) (by decide +kernel) rfl ?_
  rw [zer_id (n := 7) (M := (ZA, ZG, (u2 (u2 (u2 (u2 (u2 ZP 1 0 (.ref 2)) 1 1 (.ref 3)) 1 2 (.ref 4)) 1 3 (.ref 5)) 1 4 (.ref 6)))) (fun _ => rfl) (fun _ => rfl) (fun _ => rfl)]
  refine go_blk (pc2 := 48) (L2 := [.ref 1]) (st2 := [.int 5, .ref 1]) (M2 := (ZA, ZG, (u2 (u2 (u2 (u2 (u2 (u2 ZP 1 0 (.ref 2)) 1 1 (.ref 3)) 1 2 (.ref 4)) 1 3 (.ref 5)) 1 4 (.ref 6)) 1 5 (.ref 7)))) (hs2 := []) (C := True) [(.putfield 27, 0, 5), (.aload_n 0, 0, 0), (.iconst 5, 0, 0)] [] (by decide +kernel) rfl trivial ?_
  refine go_newarray (b := false) (N := 5) (by decide +kernel) rfl rfl (by decide) (by decide) (by decide +kernel) rfl ?_
  rw [zer_id (n := 8) (M := (ZA, ZG, (u2 (u2 (u2 (u2 (u2 (u2 ZP 1 0 (.ref 2)) 1 1 (.ref 3)) 1 2 (.ref 4)) 1 3 (.ref 5)) 1 4 (.ref 6)) 1 5 (.ref 7)))) (fun _ => rfl) (fun _ => rfl) (fun _ => rfl)]
  refine go_blk (pc2 := 58) (L2 := [.ref 1]) (st2 := []) (M2 := ((u2 ZA 1 7 0), ZG, (u2 (u2 (u2 (u2 (u2 (u2 (u2 ZP 1 0 (.ref 2)) 1 1 (.ref 3)) 1 2 (.ref 4)) 1 3 (.ref 5)) 1 4 (.ref 6)) 1 5 (.ref 7)) 1 6 (.ref 8)))) (hs2 := []) (C := True) [(.putfield 30, 0, 6), (.aload_n 0, 0, 0), (.iconst 0, 0, 0), (.putfield 33, 0, 7)] [] (by decide +kernel) rfl trivial ?_
  exact go_retv (by decide +kernel) rfl (⟨rfl, rfl⟩)
def PS_0 : Nat → Nat → Value := (u2 MP_0 0 0 (.ref 1))
def MA_2 : Nat → Nat → Int32 := (u2 (u2 MA_0 9 2 0) 9 3 0)
def MP_2 : Nat → Nat → Value := (u2 (u2 PS_0 9 0 (.ref 10)) 9 1 (.ref 11))
set_option maxRecDepth 100000 in
set_option maxHeartbeats 4000000 in
theorem s_X2_init (l : Launch) : Sem l mX2_init [.ref 9] 10 (MA_0, ZG, PS_0) 12 (pm (MA_2, ZG, MP_2)) := by
  refine sem_of_go (by decide) rfl (by decide) (by decide) rfl (Nat.le_of_ble_eq_true rfl) ?_
  show Go l ro0 mX2_init 10 (MA_0, ZG, PS_0) 0 [.ref 9] [] 12 (pm (MA_2, ZG, MP_2))
  refine go_blk (pc2 := 1) (L2 := [.ref 9]) (st2 := [.ref 9]) (M2 := (MA_0, ZG, PS_0)) (hs2 := []) (C := True) [(.aload_n 0, 0, 0)] [] (by decide +kernel) rfl trivial ?_
  refine go_obj (idx := 3) (p1 := 73) (by decide +kernel) (by decide +kernel) ⟨by decide, Nat.le_of_ble_eq_true rfl⟩ ?_
  refine go_blk (pc2 := 7) (L2 := [.ref 9]) (st2 := [.int 24, .ref 9]) (M2 := (MA_0, ZG, PS_0)) (hs2 := []) (C := True) [(.aload_n 0, 0, 0), (.bipush 24, 0, 0)] [] (by decide +kernel) rfl trivial ?_
  refine go_newarray (b := false) (N := 24) (by decide +kernel) rfl rfl (by decide) (by decide) (by decide +kernel) rfl ?_
  rw [zer_id (n := 10) (M := (MA_0, ZG, PS_0)) (fun _ => rfl) (fun _ => rfl) (fun _ => rfl)]
  refine go_blk (pc2 := 14) (L2 := [.ref 9]) (st2 := [.int 4, .ref 9]) (M2 := (MA_0, ZG, (u2 PS_0 9 0 (.ref 10)))) (hs2 := []) (C := True) [(.putfield 9, 2, 0), (.aload_n 0, 0, 0), (.iconst 4, 0, 0)] [] (by decide +kernel) rfl trivial ?_
  refine go_newarray (b := false) (N := 4) (by decide +kernel) rfl rfl (by decide) (by decide) (by decide +kernel) rfl ?_
  rw [zer_id (n := 11) (M := (MA_0, ZG, (u2 PS_0 9 0 (.ref 10)))) (fun _ => rfl) (fun _ => rfl) (fun _ => rfl)]
  refine go_blk (pc2 := 29) (L2 := [.ref 9]) (st2 := []) (M2 := ((u2 (u2 MA_0 9 2 0) 9 3 0), ZG, (u2 (u2 PS_0 9 0 (.ref 10)) 9 1 (.ref 11)))) (hs2 := []) (C := True) [(.putfield 15, 2, 1), (.aload_n 0, 0, 0), (.iconst 0, 0, 0), (.putfield 18, 2, 2), (.aload_n 0, 0, 0), (.iconst 0, 0, 0), (.putfield 22, 2, 3)] [] (by decide +kernel) rfl trivial ?_
  exact go_retv (by decide +kernel) rfl (⟨rfl, rfl⟩)
def PS_2 : Nat → Nat → Value := (u2 MP_2 0 1 (.ref 9))
def PS_3 : Nat → Nat → Value := (u2 (u2 (u2 (u2 (u2 (u2 (u2 (u2 (u2 PS_2 12 0 (.ref 13)) 12 1 (.ref 14)) 12 2 (.ref 15)) 12 3 (.ref 16)) 12 4 (.ref 17)) 12 5 (.ref 18)) 12 6 (.ref 19)) 12 7 (.ref 20)) 12 8 (.ref 21))
set_option maxRecDepth 100000 in
set_option maxHeartbeats 4000000 in
theorem s_X3_addTo0 (l : Launch) (A : Nat → Nat → Int32) (G : Nat → Nat → Int64) (p : Nat) (hp : p < 14) (v : Int32) : Sem l mX3_addTo [.ref 12, .int (nI p), .int 0, .int v] 22 (A, G, PS_3) 22 (pm (u2 A 13 p (A 13 p + v), G, PS_3)) := by
  refine sem_of_go (by decide) rfl (by decide) (by decide) rfl (Nat.le_of_ble_eq_true rfl) ?_
  show Go l ro0 mX3_addTo 22 (A, G, PS_3) 0 [.ref 12, .int (nI p), .int 0, .int v] [] 22 (pm (u2 A 13 p (A 13 p + v), G, PS_3))
  refine go_blk (pc2 := 1) (L2 := [.ref 12, .int (nI p), .int 0, .int v]) (st2 := [.int (nI p)]) (M2 := (A, G, PS_3)) (hs2 := []) (C := True) [(.iload_n 1, 0, 0)] [] (by decide +kernel) rfl trivial ?_
  refine go_ifz (cnd := .lt) (off := 9) 10 (by decide +kernel) (by decide) (fun (h : (nI p) < 0) => absurd h (fun zz => absurd ((nx_lt (a := p) (b := 0) rfl rfl (by omega) (by omega)).mp zz) (by omega))) (fun _ => ?_)
  refine go_blk (pc2 := 7) (L2 := [.ref 12, .int (nI p), .int 0, .int v]) (st2 := [.int 14, .int (nI p)]) (M2 := (A, G, PS_3)) (hs2 := []) (C := True) [(.iload_n 1, 0, 0), (.bipush 14, 0, 0)] [] (by decide +kernel) rfl trivial ?_
  refine go_cmp (cnd := .lt) (off := 4) 11 (by decide +kernel) (by decide) (fun _ => ?_) (fun (h : ¬ (nI p) < 14) => absurd h (fun zz => zz ((nx_lt (a := p) (b := 14) rfl rfl (by omega) (by omega)).mpr (by omega))))
  refine go_blk (pc2 := 12) (L2 := [.ref 12, .int (nI p), .int 0, .int v]) (st2 := [.int 0]) (M2 := (A, G, PS_3)) (hs2 := []) (C := True) [(.iload_n 2, 0, 0)] [] (by decide +kernel) rfl trivial ?_
  refine go_ifz (cnd := .ne) (off := 16) 28 (by decide +kernel) (by decide) (fun (h : ¬ (0 : Int32) = 0) => absurd h (by decide)) (fun _ => ?_)
  refine go_blk (pc2 := 25) (L2 := [.ref 12, .int (nI p), .int 0, .int v]) (st2 := []) (M2 := ((u2 A 13 p ((A 13 p) + v)), G, PS_3)) (hs2 := []) (C := ((nI p) = nI p ∧ p < 14) ∧ ((nI p) = nI p ∧ p < 14) ∧ True) [(.aload_n 0, 0, 0), (.getfield 11, 3, 0), (.iload_n 1, 0, 0), (.dup2, 0, 0), (.iaload, 0, 0), (.iload_n 3, 0, 0), (.iadd, 0, 0), (.iastore, 0, 0)] [p, p] (by decide +kernel) rfl ⟨⟨rfl, by omega⟩, ⟨rfl, by omega⟩, trivial⟩ ?_
  refine go_goto (off := 31) 56 (by decide +kernel) (by decide) ?_
  exact go_retv (by decide +kernel) rfl (⟨rfl, rfl⟩)
set_option maxRecDepth 100000 in
set_option maxHeartbeats 4000000 in
theorem s_X3_addTo1 (l : Launch) (A : Nat → Nat → Int32) (G : Nat → Nat → Int64) (p : Nat) (hp : p < 14) (v : Int32) : Sem l mX3_addTo [.ref 12, .int (nI p), .int 1, .int v] 22 (A, G, PS_3) 22 (pm (u2 A 14 p (A 14 p + v), G, PS_3)) := by
  refine sem_of_go (by decide) rfl (by decide) (by decide) rfl (Nat.le_of_ble_eq_true rfl) ?_
  show Go l ro0 mX3_addTo 22 (A, G, PS_3) 0 [.ref 12, .int (nI p), .int 1, .int v] [] 22 (pm (u2 A 14 p (A 14 p + v), G, PS_3))
  refine go_blk (pc2 := 1) (L2 := [.ref 12, .int (nI p), .int 1, .int v]) (st2 := [.int (nI p)]) (M2 := (A, G, PS_3)) (hs2 := []) (C := True) [(.iload_n 1, 0, 0)] [] (by decide +kernel) rfl trivial ?_
  refine go_ifz (cnd := .lt) (off := 9) 10 (by decide +kernel) (by decide) (fun (h : (nI p) < 0) => absurd h (fun zz => absurd ((nx_lt (a := p) (b := 0) rfl rfl (by omega) (by omega)).mp zz) (by omega))) (fun _ => ?_)
  refine go_blk (pc2 := 7) (L2 := [.ref 12, .int (nI p), .int 1, .int v]) (st2 := [.int 14, .int (nI p)]) (M2 := (A, G, PS_3)) (hs2 := []) (C := True) [(.iload_n 1, 0, 0), (.bipush 14, 0, 0)] [] (by decide +kernel) rfl trivial ?_
  refine go_cmp (cnd := .lt) (off := 4) 11 (by decide +kernel) (by decide) (fun _ => ?_) (fun (h : ¬ (nI p) < 14) => absurd h (fun zz => zz ((nx_lt (a := p) (b := 14) rfl rfl (by omega) (by omega)).mpr (by omega))))
  refine go_blk (pc2 := 12) (L2 := [.ref 12, .int (nI p), .int 1, .int v]) (st2 := [.int 1]) (M2 := (A, G, PS_3)) (hs2 := []) (C := True) [(.iload_n 2, 0, 0)] [] (by decide +kernel) rfl trivial ?_
  refine go_ifz (cnd := .ne) (off := 16) 28 (by decide +kernel) (by decide) (fun _ => ?_) (fun (h : (1 : Int32) = 0) => absurd h (by decide))
  refine go_blk (pc2 := 30) (L2 := [.ref 12, .int (nI p), .int 1, .int v]) (st2 := [.int 1, .int 1]) (M2 := (A, G, PS_3)) (hs2 := []) (C := True) [(.iload_n 2, 0, 0), (.iconst 1, 0, 0)] [] (by decide +kernel) rfl trivial ?_
  refine go_cmp (cnd := .ne) (off := 16) 46 (by decide +kernel) (by decide) (fun (h : ¬ (1 : Int32) = 1) => absurd h (by decide)) (fun _ => ?_)
  refine go_blk (pc2 := 43) (L2 := [.ref 12, .int (nI p), .int 1, .int v]) (st2 := []) (M2 := ((u2 A 14 p ((A 14 p) + v)), G, PS_3)) (hs2 := []) (C := ((nI p) = nI p ∧ p < 14) ∧ ((nI p) = nI p ∧ p < 14) ∧ True) [(.aload_n 0, 0, 0), (.getfield 15, 3, 1), (.iload_n 1, 0, 0), (.dup2, 0, 0), (.iaload, 0, 0), (.iload_n 3, 0, 0), (.iadd, 0, 0), (.iastore, 0, 0)] [p, p] (by decide +kernel) rfl ⟨⟨rfl, by omega⟩, ⟨rfl, by omega⟩, trivial⟩ ?_
  refine go_goto (off := 13) 56 (by decide +kernel) (by decide) ?_
  exact go_retv (by decide +kernel) rfl (⟨rfl, rfl⟩)
set_option maxRecDepth 100000 in
set_option maxHeartbeats 4000000 in
theorem s_X3_addTo2 (l : Launch) (A : Nat → Nat → Int32) (G : Nat → Nat → Int64) (p : Nat) (hp : p < 14) (v : Int32) : Sem l mX3_addTo [.ref 12, .int (nI p), .int 2, .int v] 22 (A, G, PS_3) 22 (pm (u2 A 15 p (A 15 p + v), G, PS_3)) := by
  refine sem_of_go (by decide) rfl (by decide) (by decide) rfl (Nat.le_of_ble_eq_true rfl) ?_
  show Go l ro0 mX3_addTo 22 (A, G, PS_3) 0 [.ref 12, .int (nI p), .int 2, .int v] [] 22 (pm (u2 A 15 p (A 15 p + v), G, PS_3))
  refine go_blk (pc2 := 1) (L2 := [.ref 12, .int (nI p), .int 2, .int v]) (st2 := [.int (nI p)]) (M2 := (A, G, PS_3)) (hs2 := []) (C := True) [(.iload_n 1, 0, 0)] [] (by decide +kernel) rfl trivial ?_
  refine go_ifz (cnd := .lt) (off := 9) 10 (by decide +kernel) (by decide) (fun (h : (nI p) < 0) => absurd h (fun zz => absurd ((nx_lt (a := p) (b := 0) rfl rfl (by omega) (by omega)).mp zz) (by omega))) (fun _ => ?_)
  refine go_blk (pc2 := 7) (L2 := [.ref 12, .int (nI p), .int 2, .int v]) (st2 := [.int 14, .int (nI p)]) (M2 := (A, G, PS_3)) (hs2 := []) (C := True) [(.iload_n 1, 0, 0), (.bipush 14, 0, 0)] [] (by decide +kernel) rfl trivial ?_
  refine go_cmp (cnd := .lt) (off := 4) 11 (by decide +kernel) (by decide) (fun _ => ?_) (fun (h : ¬ (nI p) < 14) => absurd h (fun zz => zz ((nx_lt (a := p) (b := 14) rfl rfl (by omega) (by omega)).mpr (by omega))))
  refine go_blk (pc2 := 12) (L2 := [.ref 12, .int (nI p), .int 2, .int v]) (st2 := [.int 2]) (M2 := (A, G, PS_3)) (hs2 := []) (C := True) [(.iload_n 2, 0, 0)] [] (by decide +kernel) rfl trivial ?_
  refine go_ifz (cnd := .ne) (off := 16) 28 (by decide +kernel) (by decide) (fun _ => ?_) (fun (h : (2 : Int32) = 0) => absurd h (by decide))
  refine go_blk (pc2 := 30) (L2 := [.ref 12, .int (nI p), .int 2, .int v]) (st2 := [.int 1, .int 2]) (M2 := (A, G, PS_3)) (hs2 := []) (C := True) [(.iload_n 2, 0, 0), (.iconst 1, 0, 0)] [] (by decide +kernel) rfl trivial ?_
  refine go_cmp (cnd := .ne) (off := 16) 46 (by decide +kernel) (by decide) (fun _ => ?_) (fun (h : (2 : Int32) = 1) => absurd h (by decide))
  refine go_blk (pc2 := 56) (L2 := [.ref 12, .int (nI p), .int 2, .int v]) (st2 := []) (M2 := ((u2 A 15 p ((A 15 p) + v)), G, PS_3)) (hs2 := []) (C := ((nI p) = nI p ∧ p < 14) ∧ ((nI p) = nI p ∧ p < 14) ∧ True) [(.aload_n 0, 0, 0), (.getfield 18, 3, 2), (.iload_n 1, 0, 0), (.dup2, 0, 0), (.iaload, 0, 0), (.iload_n 3, 0, 0), (.iadd, 0, 0), (.iastore, 0, 0)] [p, p] (by decide +kernel) rfl ⟨⟨rfl, by omega⟩, ⟨rfl, by omega⟩, trivial⟩ ?_
  exact go_retv (by decide +kernel) rfl (⟨rfl, rfl⟩)
def MA_3 : Nat → Nat → Int32 := (u2 (u2 (u2 (u2 (u2 (u2 (u2 (u2 (u2 (u2 (u2 (u2 (u2 (u2 (u2 (u2 (u2 (u2 (u2 MA_2 12 9 0) 13 5 ((MA_2 13 5) + 1)) 14 5 ((MA_2 14 5) + (-1))) 13 6 ((MA_2 13 6) + 1)) 15 6 ((MA_2 15 6) + (-1))) 14 7 ((MA_2 14 7) + 1)) 15 7 ((MA_2 15 7) + (-1))) 13 8 ((MA_2 13 8) + 1)) 13 9 ((MA_2 13 9) + 1)) 16 8 20) 16 9 (-20)) 14 10 ((MA_2 14 10) + 1)) 14 11 ((MA_2 14 11) + 1)) 16 10 20) 16 11 (-20)) 15 12 ((MA_2 15 12) + 1)) 15 13 ((MA_2 15 13) + 1)) 16 12 20) 16 13 (-20))
def MP_3 : Nat → Nat → Value := (u2 (u2 (u2 (u2 (u2 (u2 (u2 (u2 (u2 PS_2 12 0 (.ref 13)) 12 1 (.ref 14)) 12 2 (.ref 15)) 12 3 (.ref 16)) 12 4 (.ref 17)) 12 5 (.ref 18)) 12 6 (.ref 19)) 12 7 (.ref 20)) 12 8 (.ref 21))
set_option maxRecDepth 100000 in
set_option maxHeartbeats 4000000 in
theorem s_X3_init (l : Launch) : Sem l mX3_init [.ref 12] 13 (MA_2, ZG, PS_2) 22 (pm (MA_3, ZG, MP_3)) := by
  refine sem_of_go (by decide) rfl (by decide) (by decide) rfl (Nat.le_of_ble_eq_true rfl) ?_
  show Go l ro0 mX3_init 13 (MA_2, ZG, PS_2) 0 [.ref 12, .null] [] 22 (pm (MA_3, ZG, MP_3))
  refine go_blk (pc2 := 1) (L2 := [.ref 12, .null]) (st2 := [.ref 12]) (M2 := (MA_2, ZG, PS_2)) (hs2 := []) (C := True) [(.aload_n 0, 0, 0)] [] (by decide +kernel) rfl trivial ?_
  refine go_obj (idx := 3) (p1 := 92) (by decide +kernel) (by decide +kernel) ⟨by decide, Nat.le_of_ble_eq_true rfl⟩ ?_
  refine go_blk (pc2 := 7) (L2 := [.ref 12, .null]) (st2 := [.int 14, .ref 12]) (M2 := (MA_2, ZG, PS_2)) (hs2 := []) (C := True) [(.aload_n 0, 0, 0), (.bipush 14, 0, 0)] [] (by decide +kernel) rfl trivial ?_
  refine go_newarray (b := false) (N := 14) (by decide +kernel) rfl rfl (by decide) (by decide) (by decide +kernel) rfl ?_
  rw [zer_id (n := 13) (M := (MA_2, ZG, PS_2)) (fun _ => rfl) (fun _ => rfl) (fun _ => rfl)]
  refine go_blk (pc2 := 15) (L2 := [.ref 12, .null]) (st2 := [.int 14, .ref 12]) (M2 := (MA_2, ZG, (u2 PS_2 12 0 (.ref 13)))) (hs2 := []) (C := True) [(.putfield 11, 3, 0), (.aload_n 0, 0, 0), (.bipush 14, 0, 0)] [] (by decide +kernel) rfl trivial ?_
  refine go_newarray (b := false) (N := 14) (by decide +kernel) rfl rfl (by decide) (by decide) (by decide +kernel) rfl ?_
  rw [zer_id (n := 14) (M := (MA_2, ZG, (u2 PS_2 12 0 (.ref 13)))) (fun _ => rfl) (fun _ => rfl) (fun _ => rfl)]
  refine go_blk (pc2 := 23) (L2 := [.ref 12, .null]) (st2 := [.int 14, .ref 12]) (M2 := (MA_2, ZG, (u2 (u2 PS_2 12 0 (.ref 13)) 12 1 (.ref 14)))) (hs2 := []) (C := True) [(.putfield 15, 3, 1), (.aload_n 0, 0, 0), (.bipush 14, 0, 0)] [] (by decide +kernel) rfl trivial ?_
  refine go_newarray (b := false) (N := 14) (by decide +kernel) rfl rfl (by decide) (by decide) (by decide +kernel) rfl ?_
  rw [zer_id (n := 15) (M := (MA_2, ZG, (u2 (u2 PS_2 12 0 (.ref 13)) 12 1 (.ref 14)))) (fun _ => rfl) (fun _ => rfl) (fun _ => rfl)]
  refine go_blk (pc2 := 31) (L2 := [.ref 12, .null]) (st2 := [.int 14, .ref 12]) (M2 := (MA_2, ZG, (u2 (u2 (u2 PS_2 12 0 (.ref 13)) 12 1 (.ref 14)) 12 2 (.ref 15)))) (hs2 := []) (C := True) [(.putfield 18, 3, 2), (.aload_n 0, 0, 0), (.bipush 14, 0, 0)] [] (by decide +kernel) rfl trivial ?_
  refine go_newarray (b := false) (N := 14) (by decide +kernel) rfl rfl (by decide) (by decide) (by decide +kernel) rfl ?_
  rw [zer_id (n := 16) (M := (MA_2, ZG, (u2 (u2 (u2 PS_2 12 0 (.ref 13)) 12 1 (.ref 14)) 12 2 (.ref 15)))) (fun _ => rfl) (fun _ => rfl) (fun _ => rfl)]
  refine go_blk (pc2 := 40) (L2 := [.ref 12, .null]) (st2 := [.int 364, .ref 12]) (M2 := (MA_2, ZG, (u2 (u2 (u2 (u2 PS_2 12 0 (.ref 13)) 12 1 (.ref 14)) 12 2 (.ref 15)) 12 3 (.ref 16)))) (hs2 := []) (C := True) [(.putfield 21, 3, 3), (.aload_n 0, 0, 0), (.sipush 364, 0, 0)] [] (by decide +kernel) rfl trivial ?_
  refine go_newarray (b := false) (N := 364) (by decide +kernel) rfl rfl (by decide) (by decide) (by decide +kernel) rfl ?_
  rw [zer_id (n := 17) (M := (MA_2, ZG, (u2 (u2 (u2 (u2 PS_2 12 0 (.ref 13)) 12 1 (.ref 14)) 12 2 (.ref 15)) 12 3 (.ref 16)))) (fun _ => rfl) (fun _ => rfl) (fun _ => rfl)]
  refine go_blk (pc2 := 49) (L2 := [.ref 12, .null]) (st2 := [.int 364, .ref 12]) (M2 := (MA_2, ZG, (u2 (u2 (u2 (u2 (u2 PS_2 12 0 (.ref 13)) 12 1 (.ref 14)) 12 2 (.ref 15)) 12 3 (.ref 16)) 12 4 (.ref 17)))) (hs2 := []) (C := True) [(.putfield 24, 3, 4), (.aload_n 0, 0, 0), (.sipush 364, 0, 0)] [] (by decide +kernel) rfl trivial ?_
  refine go_newarray (b := false) (N := 364) (by decide +kernel) rfl rfl (by decide) (by decide) (by decide +kernel) rfl ?_
  rw [zer_id (n := 18) (M := (MA_2, ZG, (u2 (u2 (u2 (u2 (u2 PS_2 12 0 (.ref 13)) 12 1 (.ref 14)) 12 2 (.ref 15)) 12 3 (.ref 16)) 12 4 (.ref 17)))) (fun _ => rfl) (fun _ => rfl) (fun _ => rfl)]
  refine go_blk (pc2 := 58) (L2 := [.ref 12, .null]) (st2 := [.int 364, .ref 12]) (M2 := (MA_2, ZG, (u2 (u2 (u2 (u2 (u2 (u2 PS_2 12 0 (.ref 13)) 12 1 (.ref 14)) 12 2 (.ref 15)) 12 3 (.ref 16)) 12 4 (.ref 17)) 12 5 (.ref 18)))) (hs2 := []) (C := True) [(.putfield 27, 3, 5), (.aload_n 0, 0, 0), (.sipush 364, 0, 0)] [] (by decide +kernel) rfl trivial ?_
  refine go_newarray (b := false) (N := 364) (by decide +kernel) rfl rfl (by decide) (by decide) (by decide +kernel) rfl ?_
  rw [zer_id (n := 19) (M := (MA_2, ZG, (u2 (u2 (u2 (u2 (u2 (u2 PS_2 12 0 (.ref 13)) 12 1 (.ref 14)) 12 2 (.ref 15)) 12 3 (.ref 16)) 12 4 (.ref 17)) 12 5 (.ref 18)))) (fun _ => rfl) (fun _ => rfl) (fun _ => rfl)]
  refine go_blk (pc2 := 67) (L2 := [.ref 12, .null]) (st2 := [.int 364, .ref 12]) (M2 := (MA_2, ZG, (u2 (u2 (u2 (u2 (u2 (u2 (u2 PS_2 12 0 (.ref 13)) 12 1 (.ref 14)) 12 2 (.ref 15)) 12 3 (.ref 16)) 12 4 (.ref 17)) 12 5 (.ref 18)) 12 6 (.ref 19)))) (hs2 := []) (C := True) [(.putfield 30, 3, 6), (.aload_n 0, 0, 0), (.sipush 364, 0, 0)] [] (by decide +kernel) rfl trivial ?_
  refine go_newarray (b := false) (N := 364) (by decide +kernel) rfl rfl (by decide) (by decide) (by decide +kernel) rfl ?_
  rw [zer_id (n := 20) (M := (MA_2, ZG, (u2 (u2 (u2 (u2 (u2 (u2 (u2 PS_2 12 0 (.ref 13)) 12 1 (.ref 14)) 12 2 (.ref 15)) 12 3 (.ref 16)) 12 4 (.ref 17)) 12 5 (.ref 18)) 12 6 (.ref 19)))) (fun _ => rfl) (fun _ => rfl) (fun _ => rfl)]
  refine go_blk (pc2 := 76) (L2 := [.ref 12, .null]) (st2 := [.int 364, .ref 12]) (M2 := (MA_2, ZG, (u2 (u2 (u2 (u2 (u2 (u2 (u2 (u2 PS_2 12 0 (.ref 13)) 12 1 (.ref 14)) 12 2 (.ref 15)) 12 3 (.ref 16)) 12 4 (.ref 17)) 12 5 (.ref 18)) 12 6 (.ref 19)) 12 7 (.ref 20)))) (hs2 := []) (C := True) [(.putfield 33, 3, 7), (.aload_n 0, 0, 0), (.sipush 364, 0, 0)] [] (by decide +kernel) rfl trivial ?_
  refine go_newarray (b := false) (N := 364) (by decide +kernel) rfl rfl (by decide) (by decide) (by decide +kernel) rfl ?_
  rw [zer_id (n := 21) (M := (MA_2, ZG, (u2 (u2 (u2 (u2 (u2 (u2 (u2 (u2 PS_2 12 0 (.ref 13)) 12 1 (.ref 14)) 12 2 (.ref 15)) 12 3 (.ref 16)) 12 4 (.ref 17)) 12 5 (.ref 18)) 12 6 (.ref 19)) 12 7 (.ref 20)))) (fun _ => rfl) (fun _ => rfl) (fun _ => rfl)]
  refine go_blk (pc2 := 90) (L2 := [.ref 12, .int 0]) (st2 := [.int 3, .int 0]) (M2 := ((u2 MA_2 12 9 0), ZG, (u2 (u2 (u2 (u2 (u2 (u2 (u2 (u2 (u2 PS_2 12 0 (.ref 13)) 12 1 (.ref 14)) 12 2 (.ref 15)) 12 3 (.ref 16)) 12 4 (.ref 17)) 12 5 (.ref 18)) 12 6 (.ref 19)) 12 7 (.ref 20)) 12 8 (.ref 21)))) (hs2 := []) (C := True) [(.putfield 36, 3, 8), (.aload_n 0, 0, 0), (.iconst 0, 0, 0), (.putfield 39, 3, 9), (.iconst 0, 0, 0), (.istore_n 1, 0, 0), (.iload_n 1, 0, 0), (.iconst 3, 0, 0)] [] (by decide +kernel) rfl trivial ?_
  refine go_cmp (cnd := .ge) (off := 35) 125 (by decide +kernel) (by decide) (fun (h : 3 ≤ (0 : Int32)) => absurd h (by decide)) (fun _ => ?_)
  refine go_blk (pc2 := 103) (L2 := [.ref 12, .int 0]) (st2 := [.int 1, .int 0, .int 5, .ref 12]) (M2 := ((u2 MA_2 12 9 0), ZG, (u2 (u2 (u2 (u2 (u2 (u2 (u2 (u2 (u2 PS_2 12 0 (.ref 13)) 12 1 (.ref 14)) 12 2 (.ref 15)) 12 3 (.ref 16)) 12 4 (.ref 17)) 12 5 (.ref 18)) 12 6 (.ref 19)) 12 7 (.ref 20)) 12 8 (.ref 21)))) (hs2 := []) (C := (0 = nI 0 ∧ 0 < 3) ∧ True) [(.aload_n 0, 0, 0), (.iconst 5, 0, 0), (.iload_n 1, 0, 0), (.iadd, 0, 0), (.getstatic 43, 100, 0), (.iload_n 1, 0, 0), (.iaload, 0, 0), (.iconst 1, 0, 0)] [0] (by decide +kernel) rfl ⟨⟨rfl, by decide⟩, trivial⟩ ?_
  refine go_call (Y2 := mX3_addTo) (n2 := 22) (st := []) [.ref 12] [.int 5, .int 0, .int 1] ck_3_46 cwX3_addTo rfl (by decide +kernel) rfl (fun h => absurd h (by decide)) (fun _ => ⟨12, rfl, by decide, rfl⟩) (Nat.le_of_ble_eq_true rfl) (Or.inl rfl) (fun _ _ _ h => h) (s_X3_addTo0 l (u2 MA_2 12 9 0) ZG 5 (by decide) 1) (fun v M2 hp1 => ?_)
  obtain ⟨rfl, rfl⟩ := hp1
  show Go l ro0 mX3_init 22 ((u2 (u2 MA_2 12 9 0) 13 5 ((MA_2 13 5) + 1)), ZG, (u2 (u2 (u2 (u2 (u2 (u2 (u2 (u2 (u2 PS_2 12 0 (.ref 13)) 12 1 (.ref 14)) 12 2 (.ref 15)) 12 3 (.ref 16)) 12 4 (.ref 17)) 12 5 (.ref 18)) 12 6 (.ref 19)) 12 7 (.ref 20)) 12 8 (.ref 21))) 106 [.ref 12, .int 0] [] 22 _
  refine go_blk (pc2 := 116) (L2 := [.ref 12, .int 0]) (st2 := [.int (-1), .int 1, .int 5, .ref 12]) (M2 := ((u2 (u2 MA_2 12 9 0) 13 5 ((MA_2 13 5) + 1)), ZG, (u2 (u2 (u2 (u2 (u2 (u2 (u2 (u2 (u2 PS_2 12 0 (.ref 13)) 12 1 (.ref 14)) 12 2 (.ref 15)) 12 3 (.ref 16)) 12 4 (.ref 17)) 12 5 (.ref 18)) 12 6 (.ref 19)) 12 7 (.ref 20)) 12 8 (.ref 21)))) (hs2 := []) (C := (0 = nI 0 ∧ 0 < 3) ∧ True) [(.aload_n 0, 0, 0), (.iconst 5, 0, 0), (.iload_n 1, 0, 0), (.iadd, 0, 0), (.getstatic 50, 101, 0), (.iload_n 1, 0, 0), (.iaload, 0, 0), (.iconst (-1), 0, 0)] [0] (by decide +kernel) rfl ⟨⟨rfl, by decide⟩, trivial⟩ ?_
  refine go_call (Y2 := mX3_addTo) (n2 := 22) (st := []) [.ref 12] [.int 5, .int 1, .int (-1)] ck_3_46 cwX3_addTo rfl (by decide +kernel) rfl (fun h => absurd h (by decide)) (fun _ => ⟨12, rfl, by decide, rfl⟩) (Nat.le_of_ble_eq_true rfl) (Or.inl rfl) (fun _ _ _ h => h) (s_X3_addTo1 l (u2 (u2 MA_2 12 9 0) 13 5 ((MA_2 13 5) + 1)) ZG 5 (by decide) (-1)) (fun v M2 hp2 => ?_)
  obtain ⟨rfl, rfl⟩ := hp2
  show Go l ro0 mX3_init 22 ((u2 (u2 (u2 MA_2 12 9 0) 13 5 ((MA_2 13 5) + 1)) 14 5 ((MA_2 14 5) + (-1))), ZG, (u2 (u2 (u2 (u2 (u2 (u2 (u2 (u2 (u2 PS_2 12 0 (.ref 13)) 12 1 (.ref 14)) 12 2 (.ref 15)) 12 3 (.ref 16)) 12 4 (.ref 17)) 12 5 (.ref 18)) 12 6 (.ref 19)) 12 7 (.ref 20)) 12 8 (.ref 21))) 119 [.ref 12, .int 0] [] 22 _
  refine go_blk (pc2 := 122) (L2 := [.ref 12, .int 1]) (st2 := []) (M2 := ((u2 (u2 (u2 MA_2 12 9 0) 13 5 ((MA_2 13 5) + 1)) 14 5 ((MA_2 14 5) + (-1))), ZG, (u2 (u2 (u2 (u2 (u2 (u2 (u2 (u2 (u2 PS_2 12 0 (.ref 13)) 12 1 (.ref 14)) 12 2 (.ref 15)) 12 3 (.ref 16)) 12 4 (.ref 17)) 12 5 (.ref 18)) 12 6 (.ref 19)) 12 7 (.ref 20)) 12 8 (.ref 21)))) (hs2 := []) (C := True) [(.iinc 1 1, 0, 0)] [] (by decide +kernel) rfl trivial ?_
  refine go_goto (off := -34) 88 (by decide +kernel) (by decide) ?_
  refine go_blk (pc2 := 90) (L2 := [.ref 12, .int 1]) (st2 := [.int 3, .int 1]) (M2 := ((u2 (u2 (u2 MA_2 12 9 0) 13 5 ((MA_2 13 5) + 1)) 14 5 ((MA_2 14 5) + (-1))), ZG, (u2 (u2 (u2 (u2 (u2 (u2 (u2 (u2 (u2 PS_2 12 0 (.ref 13)) 12 1 (.ref 14)) 12 2 (.ref 15)) 12 3 (.ref 16)) 12 4 (.ref 17)) 12 5 (.ref 18)) 12 6 (.ref 19)) 12 7 (.ref 20)) 12 8 (.ref 21)))) (hs2 := []) (C := True) [(.iload_n 1, 0, 0), (.iconst 3, 0, 0)] [] (by decide +kernel) rfl trivial ?_
  refine go_cmp (cnd := .ge) (off := 35) 125 (by decide +kernel) (by decide) (fun (h : 3 ≤ (1 : Int32)) => absurd h (by decide)) (fun _ => ?_)
  refine go_blk (pc2 := 103) (L2 := [.ref 12, .int 1]) (st2 := [.int 1, .int 0, .int 6, .ref 12]) (M2 := ((u2 (u2 (u2 MA_2 12 9 0) 13 5 ((MA_2 13 5) + 1)) 14 5 ((MA_2 14 5) + (-1))), ZG, (u2 (u2 (u2 (u2 (u2 (u2 (u2 (u2 (u2 PS_2 12 0 (.ref 13)) 12 1 (.ref 14)) 12 2 (.ref 15)) 12 3 (.ref 16)) 12 4 (.ref 17)) 12 5 (.ref 18)) 12 6 (.ref 19)) 12 7 (.ref 20)) 12 8 (.ref 21)))) (hs2 := []) (C := (1 = nI 1 ∧ 1 < 3) ∧ True) [(.aload_n 0, 0, 0), (.iconst 5, 0, 0), (.iload_n 1, 0, 0), (.iadd, 0, 0), (.getstatic 43, 100, 0), (.iload_n 1, 0, 0), (.iaload, 0, 0), (.iconst 1, 0, 0)] [1] (by decide +kernel) rfl ⟨⟨rfl, by decide⟩, trivial⟩ ?_
  refine go_call (Y2 := mX3_addTo) (n2 := 22) (st := []) [.ref 12] [.int 6, .int 0, .int 1] ck_3_46 cwX3_addTo rfl (by decide +kernel) rfl (fun h => absurd h (by decide)) (fun _ => ⟨12, rfl, by decide, rfl⟩) (Nat.le_of_ble_eq_true rfl) (Or.inl rfl) (fun _ _ _ h => h) (s_X3_addTo0 l (u2 (u2 (u2 MA_2 12 9 0) 13 5 ((MA_2 13 5) + 1)) 14 5 ((MA_2 14 5) + (-1))) ZG 6 (by decide) 1) (fun v M2 hp3 => ?_)
  obtain ⟨rfl, rfl⟩ := hp3
  show Go l ro0 mX3_init 22 ((u2 (u2 (u2 (u2 MA_2 12 9 0) 13 5 ((MA_2 13 5) + 1)) 14 5 ((MA_2 14 5) + (-1))) 13 6 ((MA_2 13 6) + 1)), ZG, (u2 (u2 (u2 (u2 (u2 (u2 (u2 (u2 (u2 PS_2 12 0 (.ref 13)) 12 1 (.ref 14)) 12 2 (.ref 15)) 12 3 (.ref 16)) 12 4 (.ref 17)) 12 5 (.ref 18)) 12 6 (.ref 19)) 12 7 (.ref 20)) 12 8 (.ref 21))) 106 [.ref 12, .int 1] [] 22 _
  refine go_blk (pc2 := 116) (L2 := [.ref 12, .int 1]) (st2 := [.int (-1), .int 2, .int 6, .ref 12]) (M2 := ((u2 (u2 (u2 (u2 MA_2 12 9 0) 13 5 ((MA_2 13 5) + 1)) 14 5 ((MA_2 14 5) + (-1))) 13 6 ((MA_2 13 6) + 1)), ZG, (u2 (u2 (u2 (u2 (u2 (u2 (u2 (u2 (u2 PS_2 12 0 (.ref 13)) 12 1 (.ref 14)) 12 2 (.ref 15)) 12 3 (.ref 16)) 12 4 (.ref 17)) 12 5 (.ref 18)) 12 6 (.ref 19)) 12 7 (.ref 20)) 12 8 (.ref 21)))) (hs2 := []) (C := (1 = nI 1 ∧ 1 < 3) ∧ True) [(.aload_n 0, 0, 0), (.iconst 5, 0, 0), (.iload_n 1, 0, 0), (.iadd, 0, 0), (.getstatic 50, 101, 0), (.iload_n 1, 0, 0), (.iaload, 0, 0), (.iconst (-1), 0, 0)] [1] (by decide +kernel) rfl ⟨⟨rfl, by decide⟩, trivial⟩ ?_
  refine go_call (Y2 := mX3_addTo) (n2 := 22) (st := []) [.ref 12] [.int 6, .int 2, .int (-1)] ck_3_46 cwX3_addTo rfl (by decide +kernel) rfl (fun h => absurd h (by decide)) (fun _ => ⟨12, rfl, by decide, rfl⟩) (Nat.le_of_ble_eq_true rfl) (Or.inl rfl) (fun _ _ _ h => h) (s_X3_addTo2 l (u2 (u2 (u2 (u2 MA_2 12 9 0) 13 5 ((MA_2 13 5) + 1)) 14 5 ((MA_2 14 5) + (-1))) 13 6 ((MA_2 13 6) + 1)) ZG 6 (by decide) (-1)) (fun v M2 hp4 => ?_)
  obtain ⟨rfl, rfl⟩ := hp4
  show Go l ro0 mX3_init 22 ((u2 (u2 (u2 (u2 (u2 MA_2 12 9 0) 13 5 ((MA_2 13 5) + 1)) 14 5 ((MA_2 14 5) + (-1))) 13 6 ((MA_2 13 6) + 1)) 15 6 ((MA_2 15 6) + (-1))), ZG, (u2 (u2 (u2 (u2 (u2 (u2 (u2 (u2 (u2 PS_2 12 0 (.ref 13)) 12 1 (.ref 14)) 12 2 (.ref 15)) 12 3 (.ref 16)) 12 4 (.ref 17)) 12 5 (.ref 18)) 12 6 (.ref 19)) 12 7 (.ref 20)) 12 8 (.ref 21))) 119 [.ref 12, .int 1] [] 22 _
  refine go_blk (pc2 := 122) (L2 := [.ref 12, .int 2]) (st2 := []) (M2 := ((u2 (u2 (u2 (u2 (u2 MA_2 12 9 0) 13 5 ((MA_2 13 5) + 1)) 14 5 ((MA_2 14 5) + (-1))) 13 6 ((MA_2 13 6) + 1)) 15 6 ((MA_2 15 6) + (-1))), ZG, (u2 (u2 (u2 (u2 (u2 (u2 (u2 (u2 (u2 PS_2 12 0 (.ref 13)) 12 1 (.ref 14)) 12 2 (.ref 15)) 12 3 (.ref 16)) 12 4 (.ref 17)) 12 5 (.ref 18)) 12 6 (.ref 19)) 12 7 (.ref 20)) 12 8 (.ref 21)))) (hs2 := []) (C := True) [(.iinc 1 1, 0, 0)] [] (by decide +kernel) rfl trivial ?_
  refine go_goto (off := -34) 88 (by decide +kernel) (by decide) ?_
  refine go_blk (pc2 := 90) (L2 := [.ref 12, .int 2]) (st2 := [.int 3, .int 2]) (M2 := ((u2 (u2 (u2 (u2 (u2 MA_2 12 9 0) 13 5 ((MA_2 13 5) + 1)) 14 5 ((MA_2 14 5) + (-1))) 13 6 ((MA_2 13 6) + 1)) 15 6 ((MA_2 15 6) + (-1))), ZG, (u2 (u2 (u2 (u2 (u2 (u2 (u2 (u2 (u2 PS_2 12 0 (.ref 13)) 12 1 (.ref 14)) 12 2 (.ref 15)) 12 3 (.ref 16)) 12 4 (.ref 17)) 12 5 (.ref 18)) 12 6 (.ref 19)) 12 7 (.ref 20)) 12 8 (.ref 21)))) (hs2 := []) (C := True) [(.iload_n 1, 0, 0), (.iconst 3, 0, 0)] [] (by decide +kernel) rfl trivial ?_
  refine go_cmp (cnd := .ge) (off := 35) 125 (by decide +kernel) (by decide) (fun (h : 3 ≤ (2 : Int32)) => absurd h (by decide)) (fun _ => ?_)
  refine go_blk (pc2 := 103) (L2 := [.ref 12, .int 2]) (st2 := [.int 1, .int 1, .int 7, .ref 12]) (M2 := ((u2 (u2 (u2 (u2 (u2 MA_2 12 9 0) 13 5 ((MA_2 13 5) + 1)) 14 5 ((MA_2 14 5) + (-1))) 13 6 ((MA_2 13 6) + 1)) 15 6 ((MA_2 15 6) + (-1))), ZG, (u2 (u2 (u2 (u2 (u2 (u2 (u2 (u2 (u2 PS_2 12 0 (.ref 13)) 12 1 (.ref 14)) 12 2 (.ref 15)) 12 3 (.ref 16)) 12 4 (.ref 17)) 12 5 (.ref 18)) 12 6 (.ref 19)) 12 7 (.ref 20)) 12 8 (.ref 21)))) (hs2 := []) (C := (2 = nI 2 ∧ 2 < 3) ∧ True) [(.aload_n 0, 0, 0), (.iconst 5, 0, 0), (.iload_n 1, 0, 0), (.iadd, 0, 0), (.getstatic 43, 100, 0), (.iload_n 1, 0, 0), (.iaload, 0, 0), (.iconst 1, 0, 0)] [2] (by decide +kernel) rfl ⟨⟨rfl, by decide⟩, trivial⟩ ?_
  refine go_call (Y2 := mX3_addTo) (n2 := 22) (st := []) [.ref 12] [.int 7, .int 1, .int 1] ck_3_46 cwX3_addTo rfl (by decide +kernel) rfl (fun h => absurd h (by decide)) (fun _ => ⟨12, rfl, by decide, rfl⟩) (Nat.le_of_ble_eq_true rfl) (Or.inl rfl) (fun _ _ _ h => h) (s_X3_addTo1 l (u2 (u2 (u2 (u2 (u2 MA_2 12 9 0) 13 5 ((MA_2 13 5) + 1)) 14 5 ((MA_2 14 5) + (-1))) 13 6 ((MA_2 13 6) + 1)) 15 6 ((MA_2 15 6) + (-1))) ZG 7 (by decide) 1) (fun v M2 hp5 => ?_)
  obtain ⟨rfl, rfl⟩ := hp5
  show Go l ro0 mX3_init 22 ((u2 (u2 (u2 (u2 (u2 (u2 MA_2 12 9 0) 13 5 ((MA_2 13 5) + 1)) 14 5 ((MA_2 14 5) + (-1))) 13 6 ((MA_2 13 6) + 1)) 15 6 ((MA_2 15 6) + (-1))) 14 7 ((MA_2 14 7) + 1)), ZG, (u2 (u2 (u2 (u2 (u2 (u2 (u2 (u2 (u2 PS_2 12 0 (.ref 13)) 12 1 (.ref 14)) 12 2 (.ref 15)) 12 3 (.ref 16)) 12 4 (.ref 17)) 12 5 (.ref 18)) 12 6 (.ref 19)) 12 7 (.ref 20)) 12 8 (.ref 21))) 106 [.ref 12, .int 2] [] 22 _
  refine go_blk (pc2 := 116) (L2 := [.ref 12, .int 2]) (st2 := [.int (-1), .int 2, .int 7, .ref 12]) (M2 := ((u2 (u2 (u2 (u2 (u2 (u2 MA_2 12 9 0) 13 5 ((MA_2 13 5) + 1)) 14 5 ((MA_2 14 5) + (-1))) 13 6 ((MA_2 13 6) + 1)) 15 6 ((MA_2 15 6) + (-1))) 14 7 ((MA_2 14 7) + 1)), ZG, (u2 (u2 (u2 (u2 (u2 (u2 (u2 (u2 (u2 PS_2 12 0 (.ref 13)) 12 1 (.ref 14)) 12 2 (.ref 15)) 12 3 (.ref 16)) 12 4 (.ref 17)) 12 5 (.ref 18)) 12 6 (.ref 19)) 12 7 (.ref 20)) 12 8 (.ref 21)))) (hs2 := []) (C := (2 = nI 2 ∧ 2 < 3) ∧ True) [(.aload_n 0, 0, 0), (.iconst 5, 0, 0), (.iload_n 1, 0, 0), (.iadd, 0, 0), (.getstatic 50, 101, 0), (.iload_n 1, 0, 0), (.iaload, 0, 0), (.iconst (-1), 0, 0)] [2] (by decide +kernel) rfl ⟨⟨rfl, by decide⟩, trivial⟩ ?_
  refine go_call (Y2 := mX3_addTo) (n2 := 22) (st := []) [.ref 12] [.int 7, .int 2, .int (-1)] ck_3_46 cwX3_addTo rfl (by decide +kernel) rfl (fun h => absurd h (by decide)) (fun _ => ⟨12, rfl, by decide, rfl⟩) (Nat.le_of_ble_eq_true rfl) (Or.inl rfl) (fun _ _ _ h => h) (s_X3_addTo2 l (u2 (u2 (u2 (u2 (u2 (u2 MA_2 12 9 0) 13 5 ((MA_2 13 5) + 1)) 14 5 ((MA_2 14 5) + (-1))) 13 6 ((MA_2 13 6) + 1)) 15 6 ((MA_2 15 6) + (-1))) 14 7 ((MA_2 14 7) + 1)) ZG 7 (by decide) (-1)) (fun v M2 hp6 => ?_)
  obtain ⟨rfl, rfl⟩ := hp6
  show Go l ro0 mX3_init 22 ((u2 (u2 (u2 (u2 (u2 (u2 (u2 MA_2 12 9 0) 13 5 ((MA_2 13 5) + 1)) 14 5 ((MA_2 14 5) + (-1))) 13 6 ((MA_2 13 6) + 1)) 15 6 ((MA_2 15 6) + (-1))) 14 7 ((MA_2 14 7) + 1)) 15 7 ((MA_2 15 7) + (-1))), ZG, (u2 (u2 (u2 (u2 (u2 (u2 (u2 (u2 (u2 PS_2 12 0 (.ref 13)) 12 1 (.ref 14)) 12 2 (.ref 15)) 12 3 (.ref 16)) 12 4 (.ref 17)) 12 5 (.ref 18)) 12 6 (.ref 19)) 12 7 (.ref 20)) 12 8 (.ref 21))) 119 [.ref 12, .int 2] [] 22 _
  refine go_blk (pc2 := 122) (L2 := [.ref 12, .int 3]) (st2 := []) (M2 := ((u2 (u2 (u2 (u2 (u2 (u2 (u2 MA_2 12 9 0) 13 5 ((MA_2 13 5) + 1)) 14 5 ((MA_2 14 5) + (-1))) 13 6 ((MA_2 13 6) + 1)) 15 6 ((MA_2 15 6) + (-1))) 14 7 ((MA_2 14 7) + 1)) 15 7 ((MA_2 15 7) + (-1))), ZG, (u2 (u2 (u2 (u2 (u2 (u2 (u2 (u2 (u2 PS_2 12 0 (.ref 13)) 12 1 (.ref 14)) 12 2 (.ref 15)) 12 3 (.ref 16)) 12 4 (.ref 17)) 12 5 (.ref 18)) 12 6 (.ref 19)) 12 7 (.ref 20)) 12 8 (.ref 21)))) (hs2 := []) (C := True) [(.iinc 1 1, 0, 0)] [] (by decide +kernel) rfl trivial ?_
  refine go_goto (off := -34) 88 (by decide +kernel) (by decide) ?_
  refine go_blk (pc2 := 90) (L2 := [.ref 12, .int 3]) (st2 := [.int 3, .int 3]) (M2 := ((u2 (u2 (u2 (u2 (u2 (u2 (u2 MA_2 12 9 0) 13 5 ((MA_2 13 5) + 1)) 14 5 ((MA_2 14 5) + (-1))) 13 6 ((MA_2 13 6) + 1)) 15 6 ((MA_2 15 6) + (-1))) 14 7 ((MA_2 14 7) + 1)) 15 7 ((MA_2 15 7) + (-1))), ZG, (u2 (u2 (u2 (u2 (u2 (u2 (u2 (u2 (u2 PS_2 12 0 (.ref 13)) 12 1 (.ref 14)) 12 2 (.ref 15)) 12 3 (.ref 16)) 12 4 (.ref 17)) 12 5 (.ref 18)) 12 6 (.ref 19)) 12 7 (.ref 20)) 12 8 (.ref 21)))) (hs2 := []) (C := True) [(.iload_n 1, 0, 0), (.iconst 3, 0, 0)] [] (by decide +kernel) rfl trivial ?_
  refine go_cmp (cnd := .ge) (off := 35) 125 (by decide +kernel) (by decide) (fun _ => ?_) (fun (h : ¬ 3 ≤ (3 : Int32)) => absurd h (by decide))
  refine go_blk (pc2 := 129) (L2 := [.ref 12, .int 0]) (st2 := [.int 3, .int 0]) (M2 := ((u2 (u2 (u2 (u2 (u2 (u2 (u2 MA_2 12 9 0) 13 5 ((MA_2 13 5) + 1)) 14 5 ((MA_2 14 5) + (-1))) 13 6 ((MA_2 13 6) + 1)) 15 6 ((MA_2 15 6) + (-1))) 14 7 ((MA_2 14 7) + 1)) 15 7 ((MA_2 15 7) + (-1))), ZG, (u2 (u2 (u2 (u2 (u2 (u2 (u2 (u2 (u2 PS_2 12 0 (.ref 13)) 12 1 (.ref 14)) 12 2 (.ref 15)) 12 3 (.ref 16)) 12 4 (.ref 17)) 12 5 (.ref 18)) 12 6 (.ref 19)) 12 7 (.ref 20)) 12 8 (.ref 21)))) (hs2 := []) (C := True) [(.iconst 0, 0, 0), (.istore_n 1, 0, 0), (.iload_n 1, 0, 0), (.iconst 3, 0, 0)] [] (by decide +kernel) rfl trivial ?_
  refine go_cmp (cnd := .ge) (off := 63) 192 (by decide +kernel) (by decide) (fun (h : 3 ≤ (0 : Int32)) => absurd h (by decide)) (fun _ => ?_)
  refine go_blk (pc2 := 141) (L2 := [.ref 12, .int 0]) (st2 := [.int 1, .int 0, .int 8, .ref 12]) (M2 := ((u2 (u2 (u2 (u2 (u2 (u2 (u2 MA_2 12 9 0) 13 5 ((MA_2 13 5) + 1)) 14 5 ((MA_2 14 5) + (-1))) 13 6 ((MA_2 13 6) + 1)) 15 6 ((MA_2 15 6) + (-1))) 14 7 ((MA_2 14 7) + 1)) 15 7 ((MA_2 15 7) + (-1))), ZG, (u2 (u2 (u2 (u2 (u2 (u2 (u2 (u2 (u2 PS_2 12 0 (.ref 13)) 12 1 (.ref 14)) 12 2 (.ref 15)) 12 3 (.ref 16)) 12 4 (.ref 17)) 12 5 (.ref 18)) 12 6 (.ref 19)) 12 7 (.ref 20)) 12 8 (.ref 21)))) (hs2 := []) (C := True) [(.aload_n 0, 0, 0), (.bipush 8, 0, 0), (.iconst 2, 0, 0), (.iload_n 1, 0, 0), (.imul, 0, 0), (.iadd, 0, 0), (.iload_n 1, 0, 0), (.iconst 1, 0, 0)] [] (by decide +kernel) rfl trivial ?_
  refine go_call (Y2 := mX3_addTo) (n2 := 22) (st := []) [.ref 12] [.int 8, .int 0, .int 1] ck_3_46 cwX3_addTo rfl (by decide +kernel) rfl (fun h => absurd h (by decide)) (fun _ => ⟨12, rfl, by decide, rfl⟩) (Nat.le_of_ble_eq_true rfl) (Or.inl rfl) (fun _ _ _ h => h) (s_X3_addTo0 l (u2 (u2 (u2 (u2 (u2 (u2 (u2 MA_2 12 9 0) 13 5 ((MA_2 13 5) + 1)) 14 5 ((MA_2 14 5) + (-1))) 13 6 ((MA_2 13 6) + 1)) 15 6 ((MA_2 15 6) + (-1))) 14 7 ((MA_2 14 7) + 1)) 15 7 ((MA_2 15 7) + (-1))) ZG 8 (by decide) 1) (fun v M2 hp7 => ?_)
  obtain ⟨rfl, rfl⟩ := hp7
  show Go l ro0 mX3_init 22 ((u2 (u2 (u2 (u2 (u2 (u2 (u2 (u2 MA_2 12 9 0) 13 5 ((MA_2 13 5) + 1)) 14 5 ((MA_2 14 5) + (-1))) 13 6 ((MA_2 13 6) + 1)) 15 6 ((MA_2 15 6) + (-1))) 14 7 ((MA_2 14 7) + 1)) 15 7 ((MA_2 15 7) + (-1))) 13 8 ((MA_2 13 8) + 1)), ZG, (u2 (u2 (u2 (u2 (u2 (u2 (u2 (u2 (u2 PS_2 12 0 (.ref 13)) 12 1 (.ref 14)) 12 2 (.ref 15)) 12 3 (.ref 16)) 12 4 (.ref 17)) 12 5 (.ref 18)) 12 6 (.ref 19)) 12 7 (.ref 20)) 12 8 (.ref 21))) 144 [.ref 12, .int 0] [] 22 _
  refine go_blk (pc2 := 155) (L2 := [.ref 12, .int 0]) (st2 := [.int 1, .int 0, .int 9, .ref 12]) (M2 := ((u2 (u2 (u2 (u2 (u2 (u2 (u2 (u2 MA_2 12 9 0) 13 5 ((MA_2 13 5) + 1)) 14 5 ((MA_2 14 5) + (-1))) 13 6 ((MA_2 13 6) + 1)) 15 6 ((MA_2 15 6) + (-1))) 14 7 ((MA_2 14 7) + 1)) 15 7 ((MA_2 15 7) + (-1))) 13 8 ((MA_2 13 8) + 1)), ZG, (u2 (u2 (u2 (u2 (u2 (u2 (u2 (u2 (u2 PS_2 12 0 (.ref 13)) 12 1 (.ref 14)) 12 2 (.ref 15)) 12 3 (.ref 16)) 12 4 (.ref 17)) 12 5 (.ref 18)) 12 6 (.ref 19)) 12 7 (.ref 20)) 12 8 (.ref 21)))) (hs2 := []) (C := True) [(.aload_n 0, 0, 0), (.bipush 8, 0, 0), (.iconst 2, 0, 0), (.iload_n 1, 0, 0), (.imul, 0, 0), (.iadd, 0, 0), (.iconst 1, 0, 0), (.iadd, 0, 0), (.iload_n 1, 0, 0), (.iconst 1, 0, 0)] [] (by decide +kernel) rfl trivial ?_
  refine go_call (Y2 := mX3_addTo) (n2 := 22) (st := []) [.ref 12] [.int 9, .int 0, .int 1] ck_3_46 cwX3_addTo rfl (by decide +kernel) rfl (fun h => absurd h (by decide)) (fun _ => ⟨12, rfl, by decide, rfl⟩) (Nat.le_of_ble_eq_true rfl) (Or.inl rfl) (fun _ _ _ h => h) (s_X3_addTo0 l (u2 (u2 (u2 (u2 (u2 (u2 (u2 (u2 MA_2 12 9 0) 13 5 ((MA_2 13 5) + 1)) 14 5 ((MA_2 14 5) + (-1))) 13 6 ((MA_2 13 6) + 1)) 15 6 ((MA_2 15 6) + (-1))) 14 7 ((MA_2 14 7) + 1)) 15 7 ((MA_2 15 7) + (-1))) 13 8 ((MA_2 13 8) + 1)) ZG 9 (by decide) 1) (fun v M2 hp8 => ?_)
  obtain ⟨rfl, rfl⟩ := hp8
  show Go l ro0 mX3_init 22 ((u2 (u2 (u2 (u2 (u2 (u2 (u2 (u2 (u2 MA_2 12 9 0) 13 5 ((MA_2 13 5) + 1)) 14 5 ((MA_2 14 5) + (-1))) 13 6 ((MA_2 13 6) + 1)) 15 6 ((MA_2 15 6) + (-1))) 14 7 ((MA_2 14 7) + 1)) 15 7 ((MA_2 15 7) + (-1))) 13 8 ((MA_2 13 8) + 1)) 13 9 ((MA_2 13 9) + 1)), ZG, (u2 (u2 (u2 (u2 (u2 (u2 (u2 (u2 (u2 PS_2 12 0 (.ref 13)) 12 1 (.ref 14)) 12 2 (.ref 15)) 12 3 (.ref 16)) 12 4 (.ref 17)) 12 5 (.ref 18)) 12 6 (.ref 19)) 12 7 (.ref 20)) 12 8 (.ref 21))) 158 [.ref 12, .int 0] [] 22 _
  refine go_blk (pc2 := 189) (L2 := [.ref 12, .int 1]) (st2 := []) (M2 := ((u2 (u2 (u2 (u2 (u2 (u2 (u2 (u2 (u2 (u2 (u2 MA_2 12 9 0) 13 5 ((MA_2 13 5) + 1)) 14 5 ((MA_2 14 5) + (-1))) 13 6 ((MA_2 13 6) + 1)) 15 6 ((MA_2 15 6) + (-1))) 14 7 ((MA_2 14 7) + 1)) 15 7 ((MA_2 15 7) + (-1))) 13 8 ((MA_2 13 8) + 1)) 13 9 ((MA_2 13 9) + 1)) 16 8 20) 16 9 (-20)), ZG, (u2 (u2 (u2 (u2 (u2 (u2 (u2 (u2 (u2 PS_2 12 0 (.ref 13)) 12 1 (.ref 14)) 12 2 (.ref 15)) 12 3 (.ref 16)) 12 4 (.ref 17)) 12 5 (.ref 18)) 12 6 (.ref 19)) 12 7 (.ref 20)) 12 8 (.ref 21)))) (hs2 := []) (C := (8 = nI 8 ∧ 8 < 14) ∧ (9 = nI 9 ∧ 9 < 14) ∧ True) [(.aload_n 0, 0, 0), (.getfield 21, 3, 3), (.bipush 8, 0, 0), (.iconst 2, 0, 0), (.iload_n 1, 0, 0), (.imul, 0, 0), (.iadd, 0, 0), (.bipush 20, 0, 0), (.iastore, 0, 0), (.aload_n 0, 0, 0), (.getfield 21, 3, 3), (.bipush 8, 0, 0), (.iconst 2, 0, 0), (.iload_n 1, 0, 0), (.imul, 0, 0), (.iadd, 0, 0), (.iconst 1, 0, 0), (.iadd, 0, 0), (.bipush (-20), 0, 0), (.iastore, 0, 0), (.iinc 1 1, 0, 0)] [8, 9] (by decide +kernel) rfl ⟨⟨rfl, by decide⟩, ⟨rfl, by decide⟩, trivial⟩ ?_
  refine go_goto (off := -62) 127 (by decide +kernel) (by decide) ?_
  refine go_blk (pc2 := 129) (L2 := [.ref 12, .int 1]) (st2 := [.int 3, .int 1]) (M2 := ((u2 (u2 (u2 (u2 (u2 (u2 (u2 (u2 (u2 (u2 (u2 MA_2 12 9 0) 13 5 ((MA_2 13 5) + 1)) 14 5 ((MA_2 14 5) + (-1))) 13 6 ((MA_2 13 6) + 1)) 15 6 ((MA_2 15 6) + (-1))) 14 7 ((MA_2 14 7) + 1)) 15 7 ((MA_2 15 7) + (-1))) 13 8 ((MA_2 13 8) + 1)) 13 9 ((MA_2 13 9) + 1)) 16 8 20) 16 9 (-20)), ZG, (u2 (u2 (u2 (u2 (u2 (u2 (u2 (u2 (u2 PS_2 12 0 (.ref 13)) 12 1 (.ref 14)) 12 2 (.ref 15)) 12 3 (.ref 16)) 12 4 (.ref 17)) 12 5 (.ref 18)) 12 6 (.ref 19)) 12 7 (.ref 20)) 12 8 (.ref 21)))) (hs2 := []) (C := True) [(.iload_n 1, 0, 0), (.iconst 3, 0, 0)] [] (by decide +kernel) rfl trivial ?_
  refine go_cmp (cnd := .ge) (off := 63) 192 (by decide +kernel) (by decide) (fun (h : 3 ≤ (1 : Int32)) => absurd h (by decide)) (fun _ => ?_)
  refine go_blk (pc2 := 141) (L2 := [.ref 12, .int 1]) (st2 := [.int 1, .int 1, .int 10, .ref 12]) (M2 := ((u2 (u2 (u2 (u2 (u2 (u2 (u2 (u2 (u2 (u2 (u2 MA_2 12 9 0) 13 5 ((MA_2 13 5) + 1)) 14 5 ((MA_2 14 5) + (-1))) 13 6 ((MA_2 13 6) + 1)) 15 6 ((MA_2 15 6) + (-1))) 14 7 ((MA_2 14 7) + 1)) 15 7 ((MA_2 15 7) + (-1))) 13 8 ((MA_2 13 8) + 1)) 13 9 ((MA_2 13 9) + 1)) 16 8 20) 16 9 (-20)), ZG, (u2 (u2 (u2 (u2 (u2 (u2 (u2 (u2 (u2 PS_2 12 0 (.ref 13)) 12 1 (.ref 14)) 12 2 (.ref 15)) 12 3 (.ref 16)) 12 4 (.ref 17)) 12 5 (.ref 18)) 12 6 (.ref 19)) 12 7 (.ref 20)) 12 8 (.ref 21)))) (hs2 := []) (C := True) [(.aload_n 0, 0, 0), (.bipush 8, 0, 0), (.iconst 2, 0, 0), (.iload_n 1, 0, 0), (.imul, 0, 0), (.iadd, 0, 0), (.iload_n 1, 0, 0), (.iconst 1, 0, 0)] [] (by decide +kernel) rfl trivial ?_
  refine go_call (Y2 := mX3_addTo) (n2 := 22) (st := []) [.ref 12] [.int 10, .int 1, .int 1] ck_3_46 cwX3_addTo rfl (by decide +kernel) rfl (fun h => absurd h (by decide)) (fun _ => ⟨12, rfl, by decide, rfl⟩) (Nat.le_of_ble_eq_true rfl) (Or.inl rfl) (fun _ _ _ h => h) (s_X3_addTo1 l (u2 (u2 (u2 (u2 (u2 (u2 (u2 (u2 (u2 (u2 (u2 MA_2 12 9 0) 13 5 ((MA_2 13 5) + 1)) 14 5 ((MA_2 14 5) + (-1))) 13 6 ((MA_2 13 6) + 1)) 15 6 ((MA_2 15 6) + (-1))) 14 7 ((MA_2 14 7) + 1)) 15 7 ((MA_2 15 7) + (-1))) 13 8 ((MA_2 13 8) + 1)) 13 9 ((MA_2 13 9) + 1)) 16 8 20) 16 9 (-20)) ZG 10 (by decide) 1) (fun v M2 hp9 => ?_)
  obtain ⟨rfl, rfl⟩ := hp9
  show Go l ro0 mX3_init 22 ((u2 (u2 (u2 (u2 (u2 (u2 (u2 (u2 (u2 (u2 (u2 (u2 MA_2 12 9 0) 13 5 ((MA_2 13 5) + 1)) 14 5 ((MA_2 14 5) + (-1))) 13 6 ((MA_2 13 6) + 1)) 15 6 ((MA_2 15 6) + (-1))) 14 7 ((MA_2 14 7) + 1)) 15 7 ((MA_2 15 7) + (-1))) 13 8 ((MA_2 13 8) + 1)) 13 9 ((MA_2 13 9) + 1)) 16 8 20) 16 9 (-20)) 14 10 ((MA_2 14 10) + 1)), ZG, (u2 (u2 (u2 (u2 (u2 (u2 (u2 (u2 (u2 PS_2 12 0 (.ref 13)) 12 1 (.ref 14)) 12 2 (.ref 15)) 12 3 (.ref 16)) 12 4 (.ref 17)) 12 5 (.ref 18)) 12 6 (.ref 19)) 12 7 (.ref 20)) 12 8 (.ref 21))) 144 [.ref 12, .int 1] [] 22 _
  refine go_blk (pc2 := 155) (L2 := [.ref 12, .int 1]) (st2 := [.int 1, .int 1, .int 11, .ref 12]) (M2 := ((u2 (u2 (u2 (u2 (u2 (u2 (u2 (u2 (u2 (u2 (u2 (u2 MA_2 12 9 0) 13 5 ((MA_2 13 5) + 1)) 14 5 ((MA_2 14 5) + (-1))) 13 6 ((MA_2 13 6) + 1)) 15 6 ((MA_2 15 6) + (-1))) 14 7 ((MA_2 14 7) + 1)) 15 7 ((MA_2 15 7) + (-1))) 13 8 ((MA_2 13 8) + 1)) 13 9 ((MA_2 13 9) + 1)) 16 8 20) 16 9 (-20)) 14 10 ((MA_2 14 10) + 1)), ZG, (u2 (u2 (u2 (u2 (u2 (u2 (u2 (u2 (u2 PS_2 12 0 (.ref 13)) 12 1 (.ref 14)) 12 2 (.ref 15)) 12 3 (.ref 16)) 12 4 (.ref 17)) 12 5 (.ref 18)) 12 6 (.ref 19)) 12 7 (.ref 20)) 12 8 (.ref 21)))) (hs2 := []) (C := True) [(.aload_n 0, 0, 0), (.bipush 8, 0, 0), (.iconst 2, 0, 0), (.iload_n 1, 0, 0), (.imul, 0, 0), (.iadd, 0, 0), (.iconst 1, 0, 0), (.iadd, 0, 0), (.iload_n 1, 0, 0), (.iconst 1, 0, 0)] [] (by decide +kernel) rfl trivial ?_
  refine go_call (Y2 := mX3_addTo) (n2 := 22) (st := []) [.ref 12] [.int 11, .int 1, .int 1] ck_3_46 cwX3_addTo rfl (by decide +kernel) rfl (fun h => absurd h (by decide)) (fun _ => ⟨12, rfl, by decide, rfl⟩) (Nat.le_of_ble_eq_true rfl) (Or.inl rfl) (fun _ _ _ h => h) (s_X3_addTo1 l (u2 (u2 (u2 (u2 (u2 (u2 (u2 (u2 (u2 (u2 (u2 (u2 MA_2 12 9 0) 13 5 ((MA_2 13 5) + 1)) 14 5 ((MA_2 14 5) + (-1))) 13 6 ((MA_2 13 6) + 1)) 15 6 ((MA_2 15 6) + (-1))) 14 7 ((MA_2 14 7) + 1)) 15 7 ((MA_2 15 7) + (-1))) 13 8 ((MA_2 13 8) + 1)) 13 9 ((MA_2 13 9) + 1)) 16 8 20) 16 9 (-20)) 14 10 ((MA_2 14 10) + 1)) ZG 11 (by decide) 1) (fun v M2 hp10 => ?_)
  obtain ⟨rfl, rfl⟩ := hp10
  show Go l ro0 mX3_init 22 ((u2 (u2 (u2 (u2 (u2 (u2 (u2 (u2 (u2 (u2 (u2 (u2 (u2 MA_2 12 9 0) 13 5 ((MA_2 13 5) + 1)) 14 5 ((MA_2 14 5) + (-1))) 13 6 ((MA_2 13 6) + 1)) 15 6 ((MA_2 15 6) + (-1))) 14 7 ((MA_2 14 7) + 1)) 15 7 ((MA_2 15 7) + (-1))) 13 8 ((MA_2 13 8) + 1)) 13 9 ((MA_2 13 9) + 1)) 16 8 20) 16 9 (-20)) 14 10 ((MA_2 14 10) + 1)) 14 11 ((MA_2 14 11) + 1)), ZG, (u2 (u2 (u2 (u2 (u2 (u2 (u2 (u2 (u2 PS_2 12 0 (.ref 13)) 12 1 (.ref 14)) 12 2 (.ref 15)) 12 3 (.ref 16)) 12 4 (.ref 17)) 12 5 (.ref 18)) 12 6 (.ref 19)) 12 7 (.ref 20)) 12 8 (.ref 21))) 158 [.ref 12, .int 1] [] 22 _
  refine go_blk (pc2 := 189) (L2 := [.ref 12, .int 2]) (st2 := []) (M2 := ((u2 (u2 (u2 (u2 (u2 (u2 (u2 (u2 (u2 (u2 (u2 (u2 (u2 (u2 (u2 MA_2 12 9 0) 13 5 ((MA_2 13 5) + 1)) 14 5 ((MA_2 14 5) + (-1))) 13 6 ((MA_2 13 6) + 1)) 15 6 ((MA_2 15 6) + (-1))) 14 7 ((MA_2 14 7) + 1)) 15 7 ((MA_2 15 7) + (-1))) 13 8 ((MA_2 13 8) + 1)) 13 9 ((MA_2 13 9) + 1)) 16 8 20) 16 9 (-20)) 14 10 ((MA_2 14 10) + 1)) 14 11 ((MA_2 14 11) + 1)) 16 10 20) 16 11 (-20)), ZG, (u2 (u2 (u2 (u2 (u2 (u2 (u2 (u2 (u2 PS_2 12 0 (.ref 13)) 12 1 (.ref 14)) 12 2 (.ref 15)) 12 3 (.ref 16)) 12 4 (.ref 17)) 12 5 (.ref 18)) 12 6 (.ref 19)) 12 7 (.ref 20)) 12 8 (.ref 21)))) (hs2 := []) (C := (10 = nI 10 ∧ 10 < 14) ∧ (11 = nI 11 ∧ 11 < 14) ∧ True) [(.aload_n 0, 0, 0), (.getfield 21, 3, 3), (.bipush 8, 0, 0), (.iconst 2, 0, 0), (.iload_n 1, 0, 0), (.imul, 0, 0), (.iadd, 0, 0), (.bipush 20, 0, 0), (.iastore, 0, 0), (.aload_n 0, 0, 0), (.getfield 21, 3, 3), (.bipush 8, 0, 0), (.iconst 2, 0, 0), (.iload_n 1, 0, 0), (.imul, 0, 0), (.iadd, 0, 0), (.iconst 1, 0, 0), (.iadd, 0, 0), (.bipush (-20), 0, 0), (.iastore, 0, 0), (.iinc 1 1, 0, 0)] [10, 11] (by decide +kernel) rfl ⟨⟨rfl, by decide⟩, ⟨rfl, by decide⟩, trivial⟩ ?_
  refine go_goto (off := -62) 127 (by decide +kernel) (by decide) ?_
  refine go_blk (pc2 := 129) (L2 := [.ref 12, .int 2]) (st2 := [.int 3, .int 2]) (M2 := ((u2 (u2 (u2 (u2 (u2 (u2 (u2 (u2 (u2 (u2 (u2 (u2 (u2 (u2 (u2 MA_2 12 9 0) 13 5 ((MA_2 13 5) + 1)) 14 5 ((MA_2 14 5) + (-1))) 13 6 ((MA_2 13 6) + 1)) 15 6 ((MA_2 15 6) + (-1))) 14 7 ((MA_2 14 7) + 1)) 15 7 ((MA_2 15 7) + (-1))) 13 8 ((MA_2 13 8) + 1)) 13 9 ((MA_2 13 9) + 1)) 16 8 20) 16 9 (-20)) 14 10 ((MA_2 14 10) + 1)) 14 11 ((MA_2 14 11) + 1)) 16 10 20) 16 11 (-20)), ZG, (u2 (u2 (u2 (u2 (u2 (u2 (u2 (u2 (u2 PS_2 12 0 (.ref 13)) 12 1 (.ref 14)) 12 2 (.ref 15)) 12 3 (.ref 16)) 12 4 (.ref 17)) 12 5 (.ref 18)) 12 6 (.ref 19)) 12 7 (.ref 20)) 12 8 (.ref 21)))) (hs2 := []) (C := True) [(.iload_n 1, 0, 0), (.iconst 3, 0, 0)] [] (by decide +kernel) rfl trivial ?_
  refine go_cmp (cnd := .ge) (off := 63) 192 (by decide +kernel) (by decide) (fun (h : 3 ≤ (2 : Int32)) => absurd h (by decide)) (fun _ => ?_)
  refine go_blk (pc2 := 141) (L2 := [.ref 12, .int 2]) (st2 := [.int 1, .int 2, .int 12, .ref 12]) (M2 := ((u2 (u2 (u2 (u2 (u2 (u2 (u2 (u2 (u2 (u2 (u2 (u2 (u2 (u2 (u2 MA_2 12 9 0) 13 5 ((MA_2 13 5) + 1)) 14 5 ((MA_2 14 5) + (-1))) 13 6 ((MA_2 13 6) + 1)) 15 6 ((MA_2 15 6) + (-1))) 14 7 ((MA_2 14 7) + 1)) 15 7 ((MA_2 15 7) + (-1))) 13 8 ((MA_2 13 8) + 1)) 13 9 ((MA_2 13 9) + 1)) 16 8 20) 16 9 (-20)) 14 10 ((MA_2 14 10) + 1)) 14 11 ((MA_2 14 11) + 1)) 16 10 20) 16 11 (-20)), ZG, (u2 (u2 (u2 (u2 (u2 (u2 (u2 (u2 (u2 PS_2 12 0 (.ref 13)) 12 1 (.ref 14)) 12 2 (.ref 15)) 12 3 (.ref 16)) 12 4 (.ref 17)) 12 5 (.ref 18)) 12 6 (.ref 19)) 12 7 (.ref 20)) 12 8 (.ref 21)))) (hs2 := []) (C := True) [(.aload_n 0, 0, 0), (.bipush 8, 0, 0), (.iconst 2, 0, 0), (.iload_n 1, 0, 0), (.imul, 0, 0), (.iadd, 0, 0), (.iload_n 1, 0, 0), (.iconst 1, 0, 0)] [] (by decide +kernel) rfl trivial ?_
  refine go_call (Y2 := mX3_addTo) (n2 := 22) (st := []) [.ref 12] [.int 12, .int 2, .int 1] ck_3_46 cwX3_addTo rfl (by decide +kernel) rfl (fun h => absurd h (by decide)) (fun _ => ⟨12, rfl, by decide, rfl⟩) (Nat.le_of_ble_eq_true rfl) (Or.inl rfl) (fun _ _ _ h => h) (s_X3_addTo2 l (u2 (u2 (u2 (u2 (u2 (u2 (u2 (u2 (u2 (u2 (u2 (u2 (u2 (u2 (u2 MA_2 12 9 0) 13 5 ((MA_2 13 5) + 1)) 14 5 ((MA_2 14 5) + (-1))) 13 6 ((MA_2 13 6) + 1)) 15 6 ((MA_2 15 6) + (-1))) 14 7 ((MA_2 14 7) + 1)) 15 7 ((MA_2 15 7) + (-1))) 13 8 ((MA_2 13 8) + 1)) 13 9 ((MA_2 13 9) + 1)) 16 8 20) 16 9 (-20)) 14 10 ((MA_2 14 10) + 1)) 14 11 ((MA_2 14 11) + 1)) 16 10 20) 16 11 (-20)) ZG 12 (by decide) 1) (fun v M2 hp11 => ?_)
  obtain ⟨rfl, rfl⟩ := hp11
  show Go l ro0 mX3_init 22 ((u2 (u2 (u2 (u2 (u2 (u2 (u2 (u2 (u2 (u2 (u2 (u2 (u2 (u2 (u2 (u2 MA_2 12 9 0) 13 5 ((MA_2 13 5) + 1)) 14 5 ((MA_2 14 5) + (-1))) 13 6 ((MA_2 13 6) + 1)) 15 6 ((MA_2 15 6) + (-1))) 14 7 ((MA_2 14 7) + 1)) 15 7 ((MA_2 15 7) + (-1))) 13 8 ((MA_2 13 8) + 1)) 13 9 ((MA_2 13 9) + 1)) 16 8 20) 16 9 (-20)) 14 10 ((MA_2 14 10) + 1)) 14 11 ((MA_2 14 11) + 1)) 16 10 20) 16 11 (-20)) 15 12 ((MA_2 15 12) + 1)), ZG, (u2 (u2 (u2 (u2 (u2 (u2 (u2 (u2 (u2 PS_2 12 0 (.ref 13)) 12 1 (.ref 14)) 12 2 (.ref 15)) 12 3 (.ref 16)) 12 4 (.ref 17)) 12 5 (.ref 18)) 12 6 (.ref 19)) 12 7 (.ref 20)) 12 8 (.ref 21))) 144 [.ref 12, .int 2] [] 22 _
  refine go_blk (pc2 := 155) (L2 := [.ref 12, .int 2]) (st2 := [.int 1, .int 2, .int 13, .ref 12]) (M2 := ((u2 (u2 (u2 (u2 (u2 (u2 (u2 (u2 (u2 (u2 (u2 (u2 (u2 (u2 (u2 (u2 MA_2 12 9 0) 13 5 ((MA_2 13 5) + 1)) 14 5 ((MA_2 14 5) + (-1))) 13 6 ((MA_2 13 6) + 1)) 15 6 ((MA_2 15 6) + (-1))) 14 7 ((MA_2 14 7) + 1)) 15 7 ((MA_2 15 7) + (-1))) 13 8 ((MA_2 13 8) + 1)) 13 9 ((MA_2 13 9) + 1)) 16 8 20) 16 9 (-20)) 14 10 ((MA_2 14 10) + 1)) 14 11 ((MA_2 14 11) + 1)) 16 10 20) 16 11 (-20)) 15 12 ((MA_2 15 12) + 1)), ZG, (u2 (u2 (u2 (u2 (u2 (u2 (u2 (u2 (u2 PS_2 12 0 (.ref 13)) 12 1 (.ref 14)) 12 2 (.ref 15)) 12 3 (.ref 16)) 12 4 (.ref 17)) 12 5 (.ref 18)) 12 6 (.ref 19)) 12 7 (.ref 20)) 12 8 (.ref 21)))) (hs2 := []) (C := True) [(.aload_n 0, 0, 0), (.bipush 8, 0, 0), (.iconst 2, 0, 0), (.iload_n 1, 0, 0), (.imul, 0, 0), (.iadd, 0, 0), (.iconst 1, 0, 0), (.iadd, 0, 0), (.iload_n 1, 0, 0), (.iconst 1, 0, 0)] [] (by decide +kernel) rfl trivial ?_
  refine go_call (Y2 := mX3_addTo) (n2 := 22) (st := []) [.ref 12] [.int 13, .int 2, .int 1] ck_3_46 cwX3_addTo rfl (by decide +kernel) rfl (fun h => absurd h (by decide)) (fun _ => ⟨12, rfl, by decide, rfl⟩) (Nat.le_of_ble_eq_true rfl) (Or.inl rfl) (fun _ _ _ h => h) (s_X3_addTo2 l (u2 (u2 (u2 (u2 (u2 (u2 (u2 (u2 (u2 (u2 (u2 (u2 (u2 (u2 (u2 (u2 MA_2 12 9 0) 13 5 ((MA_2 13 5) + 1)) 14 5 ((MA_2 14 5) + (-1))) 13 6 ((MA_2 13 6) + 1)) 15 6 ((MA_2 15 6) + (-1))) 14 7 ((MA_2 14 7) + 1)) 15 7 ((MA_2 15 7) + (-1))) 13 8 ((MA_2 13 8) + 1)) 13 9 ((MA_2 13 9) + 1)) 16 8 20) 16 9 (-20)) 14 10 ((MA_2 14 10) + 1)) 14 11 ((MA_2 14 11) + 1)) 16 10 20) 16 11 (-20)) 15 12 ((MA_2 15 12) + 1)) ZG 13 (by decide) 1) (fun v M2 hp12 => ?_)
  obtain ⟨rfl, rfl⟩ := hp12
  show Go l ro0 mX3_init 22 ((u2 (u2 (u2 (u2 (u2 (u2 (u2 (u2 (u2 (u2 (u2 (u2 (u2 (u2 (u2 (u2 (u2 MA_2 12 9 0) 13 5 ((MA_2 13 5) + 1)) 14 5 ((MA_2 14 5) + (-1))) 13 6 ((MA_2 13 6) + 1)) 15 6 ((MA_2 15 6) + (-1))) 14 7 ((MA_2 14 7) + 1)) 15 7 ((MA_2 15 7) + (-1))) 13 8 ((MA_2 13 8) + 1)) 13 9 ((MA_2 13 9) + 1)) 16 8 20) 16 9 (-20)) 14 10 ((MA_2 14 10) + 1)) 14 11 ((MA_2 14 11) + 1)) 16 10 20) 16 11 (-20)) 15 12 ((MA_2 15 12) + 1)) 15 13 ((MA_2 15 13) + 1)), ZG, (u2 (u2 (u2 (u2 (u2 (u2 (u2 (u2 (u2 PS_2 12 0 (.ref 13)) 12 1 (.ref 14)) 12 2 (.ref 15)) 12 3 (.ref 16)) 12 4 (.ref 17)) 12 5 (.ref 18)) 12 6 (.ref 19)) 12 7 (.ref 20)) 12 8 (.ref 21))) 158 [.ref 12, .int 2] [] 22 _
  refine go_blk (pc2 := 189) (L2 := [.ref 12, .int 3]) (st2 := []) (M2 := ((u2 (u2 (u2 (u2 (u2 (u2 (u2 (u2 (u2 (u2 (u2 (u2 (u2 (u2 (u2 (u2 (u2 (u2 (u2 MA_2 12 9 0) 13 5 ((MA_2 13 5) + 1)) 14 5 ((MA_2 14 5) + (-1))) 13 6 ((MA_2 13 6) + 1)) 15 6 ((MA_2 15 6) + (-1))) 14 7 ((MA_2 14 7) + 1)) 15 7 ((MA_2 15 7) + (-1))) 13 8 ((MA_2 13 8) + 1)) 13 9 ((MA_2 13 9) + 1)) 16 8 20) 16 9 (-20)) 14 10 ((MA_2 14 10) + 1)) 14 11 ((MA_2 14 11) + 1)) 16 10 20) 16 11 (-20)) 15 12 ((MA_2 15 12) + 1)) 15 13 ((MA_2 15 13) + 1)) 16 12 20) 16 13 (-20)), ZG, (u2 (u2 (u2 (u2 (u2 (u2 (u2 (u2 (u2 PS_2 12 0 (.ref 13)) 12 1 (.ref 14)) 12 2 (.ref 15)) 12 3 (.ref 16)) 12 4 (.ref 17)) 12 5 (.ref 18)) 12 6 (.ref 19)) 12 7 (.ref 20)) 12 8 (.ref 21)))) (hs2 := []) (C := (12 = nI 12 ∧ 12 < 14) ∧ (13 = nI 13 ∧ 13 < 14) ∧ True) [(.aload_n 0, 0, 0), (.getfield 21, 3, 3), (.bipush 8, 0, 0), (.iconst 2, 0, 0), (.iload_n 1, 0, 0), (.imul, 0, 0), (.iadd, 0, 0), (.bipush 20, 0, 0), (.iastore, 0, 0), (.aload_n 0, 0, 0), (.getfield 21, 3, 3), (.bipush 8, 0, 0), (.iconst 2, 0, 0), (.iload_n 1, 0, 0), (.imul, 0, 0), (.iadd, 0, 0), (.iconst 1, 0, 0), (.iadd, 0, 0), (.bipush (-20), 0, 0), (.iastore, 0, 0), (.iinc 1 1, 0, 0)] [12, 13] (by decide +kernel) rfl ⟨⟨rfl, by decide⟩, ⟨rfl, by decide⟩, trivial⟩ ?_
  refine go_goto (off := -62) 127 (by decide +kernel) (by decide) ?_
  refine go_blk (pc2 := 129) (L2 := [.ref 12, .int 3]) (st2 := [.int 3, .int 3]) (M2 := ((u2 (u2 (u2 (u2 (u2 (u2 (u2 (u2 (u2 (u2 (u2 (u2 (u2 (u2 (u2 (u2 (u2 (u2 (u2 MA_2 12 9 0) 13 5 ((MA_2 13 5) + 1)) 14 5 ((MA_2 14 5) + (-1))) 13 6 ((MA_2 13 6) + 1)) 15 6 ((MA_2 15 6) + (-1))) 14 7 ((MA_2 14 7) + 1)) 15 7 ((MA_2 15 7) + (-1))) 13 8 ((MA_2 13 8) + 1)) 13 9 ((MA_2 13 9) + 1)) 16 8 20) 16 9 (-20)) 14 10 ((MA_2 14 10) + 1)) 14 11 ((MA_2 14 11) + 1)) 16 10 20) 16 11 (-20)) 15 12 ((MA_2 15 12) + 1)) 15 13 ((MA_2 15 13) + 1)) 16 12 20) 16 13 (-20)), ZG, (u2 (u2 (u2 (u2 (u2 (u2 (u2 (u2 (u2 PS_2 12 0 (.ref 13)) 12 1 (.ref 14)) 12 2 (.ref 15)) 12 3 (.ref 16)) 12 4 (.ref 17)) 12 5 (.ref 18)) 12 6 (.ref 19)) 12 7 (.ref 20)) 12 8 (.ref 21)))) (hs2 := []) (C := True) [(.iload_n 1, 0, 0), (.iconst 3, 0, 0)] [] (by decide +kernel) rfl trivial ?_
  refine go_cmp (cnd := .ge) (off := 63) 192 (by decide +kernel) (by decide) (fun _ => ?_) (fun (h : ¬ 3 ≤ (3 : Int32)) => absurd h (by decide))
  exact go_retv (by decide +kernel) rfl (⟨rfl, rfl⟩)
def PS_3b : Nat → Nat → Value := (u2 MP_3 0 2 (.ref 12))
def MP_1 : Nat → Nat → Value := (u2 (u2 (u2 PS_3b 22 0 (.ref 23)) 22 1 (.ref 24)) 22 2 (.ref 25))
set_option maxRecDepth 100000 in
set_option maxHeartbeats 4000000 in
theorem s_X1_init (l : Launch) : Sem l mX1_init [.ref 22] 23 (MA_3, ZG, PS_3b) 26 (pm (MA_3, ZG, MP_1)) := by
  refine sem_of_go (by decide) rfl (by decide) (by decide) rfl (Nat.le_of_ble_eq_true rfl) ?_
  show Go l ro0 mX1_init 23 (MA_3, ZG, PS_3b) 0 [.ref 22] [] 26 (pm (MA_3, ZG, MP_1))
  refine go_blk (pc2 := 1) (L2 := [.ref 22]) (st2 := [.ref 22]) (M2 := (MA_3, ZG, PS_3b)) (hs2 := []) (C := True) [(.aload_n 0, 0, 0)] [] (by decide +kernel) rfl trivial ?_
  refine go_obj (idx := 3) (p1 := 137) (by decide +kernel) (by decide +kernel) ⟨by decide, Nat.le_of_ble_eq_true rfl⟩ ?_
  refine go_blk (pc2 := 8) (L2 := [.ref 22]) (st2 := [.int 160, .ref 22]) (M2 := (MA_3, ZG, PS_3b)) (hs2 := []) (C := True) [(.aload_n 0, 0, 0), (.sipush 160, 0, 0)] [] (by decide +kernel) rfl trivial ?_
  refine go_newarray (b := true) (N := 160) (by decide +kernel) rfl rfl (by decide) (by decide) (by decide +kernel) rfl ?_
  rw [zer_id (n := 23) (M := (MA_3, ZG, PS_3b)) (fun _ => rfl) (fun _ => rfl) (fun _ => rfl)]
  refine go_blk (pc2 := 17) (L2 := [.ref 22]) (st2 := [.int 160, .ref 22]) (M2 := (MA_3, ZG, (u2 PS_3b 22 0 (.ref 23)))) (hs2 := []) (C := True) [(.putfield 9, 1, 0), (.aload_n 0, 0, 0), (.sipush 160, 0, 0)] [] (by decide +kernel) rfl trivial ?_
  refine go_newarray (b := false) (N := 160) (by decide +kernel) rfl rfl (by decide) (by decide) (by decide +kernel) rfl ?_
  rw [zer_id (n := 24) (M := (MA_3, ZG, (u2 PS_3b 22 0 (.ref 23)))) (fun _ => rfl) (fun _ => rfl) (fun _ => rfl)]
  refine go_blk (pc2 := 26) (L2 := [.ref 22]) (st2 := [.int 160, .ref 22]) (M2 := (MA_3, ZG, (u2 (u2 PS_3b 22 0 (.ref 23)) 22 1 (.ref 24)))) (hs2 := []) (C := True) [(.putfield 15, 1, 1), (.aload_n 0, 0, 0), (.sipush 160, 0, 0)] [] (by decide +kernel) rfl trivial ?_
  refine go_newarray (b := false) (N := 160) (by decide +kernel) rfl rfl (by decide) (by decide) (by decide +kernel) rfl ?_
  rw [zer_id (n := 25) (M := (MA_3, ZG, (u2 (u2 PS_3b 22 0 (.ref 23)) 22 1 (.ref 24)))) (fun _ => rfl) (fun _ => rfl) (fun _ => rfl)]
  refine go_blk (pc2 := 31) (L2 := [.ref 22]) (st2 := []) (M2 := (MA_3, ZG, (u2 (u2 (u2 PS_3b 22 0 (.ref 23)) 22 1 (.ref 24)) 22 2 (.ref 25)))) (hs2 := []) (C := True) [(.putfield 19, 1, 2)] [] (by decide +kernel) rfl trivial ?_
  exact go_retv (by decide +kernel) rfl (⟨rfl, rfl⟩)
def PS_1 : Nat → Nat → Value := (u2 MP_1 0 3 (.ref 22))
def MA_4 : Nat → Nat → Int32 := (u2 (u2 (u2 (u2 (u2 MA_3 26 0 0) 26 1 0) 26 2 0) 26 5 0) 26 8 0)
def MG_4 : Nat → Nat → Int64 := (u2 (u2 (u2 (u2 ZG 26 3 0) 26 4 0) 26 6 0) 26 7 0)
set_option maxRecDepth 100000 in
set_option maxHeartbeats 4000000 in
theorem s_X4_init (l : Launch) : Sem l mX4_init [.ref 26] 27 (MA_3, ZG, PS_1) 27 (pm (MA_4, MG_4, PS_1)) := by
  refine sem_of_go (by decide) rfl (by decide) (by decide) rfl (Nat.le_of_ble_eq_true rfl) ?_
  show Go l ro0 mX4_init 27 (MA_3, ZG, PS_1) 0 [.ref 26] [] 27 (pm (MA_4, MG_4, PS_1))
  refine go_blk (pc2 := 1) (L2 := [.ref 26]) (st2 := [.ref 26]) (M2 := (MA_3, ZG, PS_1)) (hs2 := []) (C := True) [(.aload_n 0, 0, 0)] [] (by decide +kernel) rfl trivial ?_
  refine go_obj (idx := 1) (p1 := 154) (by decide +kernel) (by decide +kernel) ⟨by decide, Nat.le_of_ble_eq_true rfl⟩ ?_
  refine go_blk (pc2 := 49) (L2 := [.ref 26]) (st2 := []) (M2 := ((u2 (u2 (u2 (u2 (u2 MA_3 26 0 0) 26 1 0) 26 2 0) 26 5 0) 26 8 0), (u2 (u2 (u2 (u2 ZG 26 3 0) 26 4 0) 26 6 0) 26 7 0), PS_1)) (hs2 := []) (C := (0 = 0 ∨ 0 = 1) ∧ True) [(.aload_n 0, 0, 0), (.iconst 0, 0, 0), (.putfield 7, 4, 0), (.aload_n 0, 0, 0), (.iconst 0, 0, 0), (.putfield 13, 4, 1), (.aload_n 0, 0, 0), (.iconst 0, 0, 0), (.putfield 16, 4, 2), (.aload_n 0, 0, 0), (.lconst 0, 0, 0), (.putfield 19, 4, 3), (.aload_n 0, 0, 0), (.lconst 0, 0, 0), (.putfield 23, 4, 4), (.aload_n 0, 0, 0), (.iconst 0, 0, 0), (.putfield 26, 4, 5), (.aload_n 0, 0, 0), (.lconst 0, 0, 0), (.putfield 30, 4, 6), (.aload_n 0, 0, 0), (.lconst 0, 0, 0), (.putfield 33, 4, 7), (.aload_n 0, 0, 0), (.iconst 0, 0, 0), (.putfield 36, 4, 8)] [] (by decide +kernel) rfl ⟨Or.inl rfl, trivial⟩ ?_
  exact go_retv (by decide +kernel) rfl (⟨rfl, rfl⟩)
def MA_5 : Nat → Nat → Int32 := (u2 MA_4 0 5 1)
def MG_5 : Nat → Nat → Int64 := (u2 (u2 MG_4 0 6 0) 0 7 0)
def MP_5 : Nat → Nat → Value := (u2 PS_1 0 4 (.ref 26))
set_option maxRecDepth 100000 in
set_option maxHeartbeats 4000000 in
theorem s_X5_init (l : Launch) : Sem l mX5_init [.ref 0] 1 (ZA, ZG, ZP) 27 (pm (MA_5, MG_5, MP_5)) := by
  refine sem_of_go (by decide) rfl (by decide) (by decide) rfl (Nat.le_of_ble_eq_true rfl) ?_
  show Go l ro0 mX5_init 1 (ZA, ZG, ZP) 0 [.ref 0] [] 27 (pm (MA_5, MG_5, MP_5))
  refine go_blk (pc2 := 1) (L2 := [.ref 0]) (st2 := [.ref 0]) (M2 := (ZA, ZG, ZP)) (hs2 := []) (C := True) [(.aload_n 0, 0, 0)] [] (by decide +kernel) rfl trivial ?_
  refine go_obj (idx := 3) (p1 := 29) (by decide +kernel) (by decide +kernel) ⟨by decide, Nat.le_of_ble_eq_true rfl⟩ ?_
  refine go_blk (pc2 := 5) (L2 := [.ref 0]) (st2 := [.ref 0]) (M2 := (ZA, ZG, ZP)) (hs2 := []) (C := True) [(.aload_n 0, 0, 0)] [] (by decide +kernel) rfl trivial ?_
  refine go_new (idx := 9) (ci := 0) (p1 := 32) (p2 := 33) (p3 := 18) (by decide +kernel) (by decide +kernel) rfl (by decide) (by decide) (by decide +kernel) rfl ?_
  rw [zer_id (n := 1) (M := (ZA, ZG, ZP)) (fun _ => rfl) (fun _ => rfl) (fun _ => rfl)]
  refine go_blk (pc2 := 9) (L2 := [.ref 0]) (st2 := [.ref 1, .ref 1, .ref 0]) (M2 := (ZA, ZG, ZP)) (hs2 := []) (C := True) [(.dup, 0, 0)] [] (by decide +kernel) rfl trivial ?_
  refine go_call (Y2 := mX0_init) (n2 := 9) (st := [.ref 1, .ref 0]) [.ref 1] [] ck_5_11 cwX0_init rfl (by decide +kernel) rfl (fun h => absurd h (by decide)) (fun _ => ⟨1, rfl, by decide, rfl⟩) (Nat.le_of_ble_eq_true rfl) (Or.inr rfl) (fun _ _ _ h => h) (s_X0_init l) (fun v M2 hp1 => ?_)
  obtain ⟨rfl, rfl⟩ := hp1
  show Go l ro0 mX5_init 9 (MA_0, ZG, MP_0) 12 [.ref 0] [.ref 1, .ref 0] 27 _
  refine go_blk (pc2 := 16) (L2 := [.ref 0]) (st2 := [.ref 0]) (M2 := (MA_0, ZG, (u2 MP_0 0 0 (.ref 1)))) (hs2 := []) (C := True) [(.putfield 12, 5, 0), (.aload_n 0, 0, 0)] [] (by decide +kernel) rfl trivial ?_
  refine go_new (idx := 16) (ci := 2) (p1 := 68) (p2 := 69) (p3 := 19) (by decide +kernel) (by decide +kernel) rfl (by decide) (by decide) (by decide +kernel) rfl ?_
  rw [zer_id (n := 9) (M := (MA_0, ZG, (u2 MP_0 0 0 (.ref 1)))) (fun _ => rfl) (fun _ => rfl) (fun _ => rfl)]
  refine go_blk (pc2 := 20) (L2 := [.ref 0]) (st2 := [.ref 9, .ref 9, .ref 0]) (M2 := (MA_0, ZG, (u2 MP_0 0 0 (.ref 1)))) (hs2 := []) (C := True) [(.dup, 0, 0)] [] (by decide +kernel) rfl trivial ?_
  refine go_call (Y2 := mX2_init) (n2 := 12) (st := [.ref 9, .ref 0]) [.ref 9] [] ck_5_18 cwX2_init rfl (by decide +kernel) rfl (fun h => absurd h (by decide)) (fun _ => ⟨9, rfl, by decide, rfl⟩) (Nat.le_of_ble_eq_true rfl) (Or.inr rfl) (fun _ _ _ h => h) (s_X2_init l) (fun v M2 hp2 => ?_)
  obtain ⟨rfl, rfl⟩ := hp2
  show Go l ro0 mX5_init 12 (MA_2, ZG, MP_2) 23 [.ref 0] [.ref 9, .ref 0] 27 _
  refine go_blk (pc2 := 27) (L2 := [.ref 0]) (st2 := [.ref 0]) (M2 := (MA_2, ZG, (u2 MP_2 0 1 (.ref 9)))) (hs2 := []) (C := True) [(.putfield 19, 5, 1), (.aload_n 0, 0, 0)] [] (by decide +kernel) rfl trivial ?_
  refine go_new (idx := 23) (ci := 3) (p1 := 87) (p2 := 88) (p3 := 20) (by decide +kernel) (by decide +kernel) rfl (by decide) (by decide) (by decide +kernel) rfl ?_
  rw [zer_id (n := 12) (M := (MA_2, ZG, (u2 MP_2 0 1 (.ref 9)))) (fun _ => rfl) (fun _ => rfl) (fun _ => rfl)]
  refine go_blk (pc2 := 31) (L2 := [.ref 0]) (st2 := [.ref 12, .ref 12, .ref 0]) (M2 := (MA_2, ZG, (u2 MP_2 0 1 (.ref 9)))) (hs2 := []) (C := True) [(.dup, 0, 0)] [] (by decide +kernel) rfl trivial ?_
  refine go_call (Y2 := mX3_init) (n2 := 22) (st := [.ref 12, .ref 0]) [.ref 12] [] ck_5_25 cwX3_init rfl (by decide +kernel) rfl (fun h => absurd h (by decide)) (fun _ => ⟨12, rfl, by decide, rfl⟩) (Nat.le_of_ble_eq_true rfl) (Or.inr rfl) (fun _ _ _ h => h) (s_X3_init l) (fun v M2 hp3 => ?_)
  obtain ⟨rfl, rfl⟩ := hp3
  show Go l ro0 mX5_init 22 (MA_3, ZG, MP_3) 34 [.ref 0] [.ref 12, .ref 0] 27 _
  refine go_blk (pc2 := 38) (L2 := [.ref 0]) (st2 := [.ref 0]) (M2 := (MA_3, ZG, (u2 MP_3 0 2 (.ref 12)))) (hs2 := []) (C := True) [(.putfield 26, 5, 2), (.aload_n 0, 0, 0)] [] (by decide +kernel) rfl trivial ?_
  refine go_new (idx := 30) (ci := 1) (p1 := 132) (p2 := 133) (p3 := 21) (by decide +kernel) (by decide +kernel) rfl (by decide) (by decide) (by decide +kernel) rfl ?_
  rw [zer_id (n := 22) (M := (MA_3, ZG, (u2 MP_3 0 2 (.ref 12)))) (fun _ => rfl) (fun _ => rfl) (fun _ => rfl)]
  refine go_blk (pc2 := 42) (L2 := [.ref 0]) (st2 := [.ref 22, .ref 22, .ref 0]) (M2 := (MA_3, ZG, (u2 MP_3 0 2 (.ref 12)))) (hs2 := []) (C := True) [(.dup, 0, 0)] [] (by decide +kernel) rfl trivial ?_
  refine go_call (Y2 := mX1_init) (n2 := 26) (st := [.ref 22, .ref 0]) [.ref 22] [] ck_5_32 cwX1_init rfl (by decide +kernel) rfl (fun h => absurd h (by decide)) (fun _ => ⟨22, rfl, by decide, rfl⟩) (Nat.le_of_ble_eq_true rfl) (Or.inr rfl) (fun _ _ _ h => h) (s_X1_init l) (fun v M2 hp4 => ?_)
  obtain ⟨rfl, rfl⟩ := hp4
  show Go l ro0 mX5_init 26 (MA_3, ZG, MP_1) 45 [.ref 0] [.ref 22, .ref 0] 27 _
  refine go_blk (pc2 := 49) (L2 := [.ref 0]) (st2 := [.ref 0]) (M2 := (MA_3, ZG, (u2 MP_1 0 3 (.ref 22)))) (hs2 := []) (C := True) [(.putfield 33, 5, 3), (.aload_n 0, 0, 0)] [] (by decide +kernel) rfl trivial ?_
  refine go_new (idx := 37) (ci := 4) (p1 := 149) (p2 := 150) (p3 := 22) (by decide +kernel) (by decide +kernel) rfl (by decide) (by decide) (by decide +kernel) rfl ?_
  rw [zer_id (n := 26) (M := (MA_3, ZG, (u2 MP_1 0 3 (.ref 22)))) (fun _ => rfl) (fun _ => rfl) (fun _ => rfl)]
  refine go_blk (pc2 := 53) (L2 := [.ref 0]) (st2 := [.ref 26, .ref 26, .ref 0]) (M2 := (MA_3, ZG, (u2 MP_1 0 3 (.ref 22)))) (hs2 := []) (C := True) [(.dup, 0, 0)] [] (by decide +kernel) rfl trivial ?_
  refine go_call (Y2 := mX4_init) (n2 := 27) (st := [.ref 26, .ref 0]) [.ref 26] [] ck_5_39 cwX4_init rfl (by decide +kernel) rfl (fun h => absurd h (by decide)) (fun _ => ⟨26, rfl, by decide, rfl⟩) (Nat.le_of_ble_eq_true rfl) (Or.inl rfl) (fun _ _ _ h => h) (s_X4_init l) (fun v M2 hp5 => ?_)
  obtain ⟨rfl, rfl⟩ := hp5
  show Go l ro0 mX5_init 27 (MA_4, MG_4, PS_1) 56 [.ref 0] [.ref 26, .ref 0] 27 _
  refine go_blk (pc2 := 74) (L2 := [.ref 0]) (st2 := []) (M2 := ((u2 MA_4 0 5 1), (u2 (u2 MG_4 0 6 0) 0 7 0), (u2 PS_1 0 4 (.ref 26)))) (hs2 := []) (C := (1 = 0 ∨ 1 = 1) ∧ True) [(.putfield 40, 5, 4), (.aload_n 0, 0, 0), (.iconst 1, 0, 0), (.putfield 44, 5, 5), (.aload_n 0, 0, 0), (.lconst 0, 0, 0), (.putfield 48, 5, 6), (.aload_n 0, 0, 0), (.lconst 0, 0, 0), (.putfield 52, 5, 7)] [] (by decide +kernel) rfl ⟨Or.inr rfl, trivial⟩ ?_
  exact go_retv (by decide +kernel) rfl (⟨rfl, rfl⟩)
theorem P5_PF : MP_5 = PF := by
  funext o k
  have h0 : ∀ k, MP_5 0 k = PF 0 k := fun k => match k with
    | 0 => rfl
    | 1 => rfl
    | 2 => rfl
    | 3 => rfl
    | 4 => rfl
    | k + 5 => rfl
  have h1 : ∀ k, MP_5 1 k = PF 1 k := fun k => match k with
    | 0 => rfl
    | 1 => rfl
    | 2 => rfl
    | 3 => rfl
    | 4 => rfl
    | 5 => rfl
    | 6 => rfl
    | k + 7 => rfl
  have h9 : ∀ k, MP_5 9 k = PF 9 k := fun k => match k with
    | 0 => rfl
    | 1 => rfl
    | k + 2 => rfl
  have h12 : ∀ k, MP_5 12 k = PF 12 k := fun k => match k with
    | 0 => rfl
    | 1 => rfl
    | 2 => rfl
    | 3 => rfl
    | 4 => rfl
    | 5 => rfl
    | 6 => rfl
    | 7 => rfl
    | 8 => rfl
    | k + 9 => rfl
  have h22 : ∀ k, MP_5 22 k = PF 22 k := fun k => match k with
    | 0 => rfl
    | 1 => rfl
    | 2 => rfl
    | k + 3 => rfl
  by_cases c : o = 0 ∨ o = 1 ∨ o = 9 ∨ o = 12 ∨ o = 22
  · rcases c with rfl | rfl | rfl | rfl | rfl
    · exact h0 k
    · exact h1 k
    · exact h9 k
    · exact h12 k
    · exact h22 k
  · have e : PF o k = .null := by
      unfold PF
      split <;> first | (exfalso; omega) | rfl
    rw [e]
    have g : ∀ {f : Nat → Nat → Value} {o2 k2 : Nat} {v : Value}, (o2 = 0 ∨ o2 = 1 ∨ o2 = 9 ∨ o2 = 12 ∨ o2 = 22) → f o k = .null → u2 f o2 k2 v o k = .null := fun hq hf => by rw [u2_o (by omega)]; exact hf
    exact (g (by omega) (g (by omega) (g (by omega) (g (by omega) (g (by omega) (g (by omega) (g (by omega) (g (by omega) (g (by omega) (g (by omega) (g (by omega) (g (by omega) (g (by omega) (g (by omega) (g (by omega) (g (by omega) (g (by omega) (g (by omega) (g (by omega) (g (by omega) (g (by omega) (g (by omega) (g (by omega) (g (by omega) (g (by omega) (g (by omega) rfl))))))))))))))))))))))))))
