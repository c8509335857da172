def ZA : Nat → Nat → Int32 := fun _ _ => 0
def ZG : Nat → Nat → Int64 := fun _ _ => 0
def ZP : Nat → Nat → Value := fun _ _ => .null
theorem zer_id {n : Nat} {M : Mem} (h1 : ∀ k, M.1 n k = 0) (h2 : ∀ k, M.2.1 n k = 0) (h3 : ∀ k, M.2.2 n k = .null) : zer n M = M := by
  have e1 : zrow M.1 n 0 = M.1 := by
    funext o k
    unfold zrow
    split
    · rename_i h; rw [h, h1]
    · rfl
  have e2 : zrow M.2.1 n 0 = M.2.1 := by
    funext o k
    unfold zrow
    split
    · rename_i h; rw [h, h2]
    · rfl
  have e3 : zrow M.2.2 n .null = M.2.2 := by
    funext o k
    unfold zrow
    split
    · rename_i h; rw [h, h3]
    · rfl
  unfold zer
  rw [e1, e2, e3]
def MA_0 : Nat → Nat → Int32 := (u2 ZA 1 7 0)
def MP_0 : Nat → Nat → Value := (u2 (u2 (u2 (u2 (u2 (u2 (u2 ZP 1 0 (.ref 2)) 1 1 (.ref 3)) 1 2 (.ref 4)) 1 3 (.ref 5)) 1 4 (.ref 6)) 1 5 (.ref 7)) 1 6 (.ref 8))
set_option maxRecDepth 100000 in
set_option maxHeartbeats 4000000 in
theorem s_X0_init (l : Launch) : Sem l mX0_init [.ref 1] 2 (ZA, ZG, ZP) 9 (pm (MA_0, ZG, MP_0)) := by
  refine sem_of_go (by decide) rfl (by decide) (by decide) rfl (Nat.le_of_ble_eq_true rfl) ?_
  show Go l ro0 mX0_init 2 (ZA, ZG, ZP) 0 [.ref 1] [] 9 (pm (MA_0, ZG, MP_0))
  refine go_blk (pc2 := 1) (L2 := [.ref 1]) (st2 := [.ref 1]) (M2 := (ZA, ZG, ZP)) (hs2 := []) (C := True) [(.aload_n 0, 0, 0)] [] (by decide +kernel) rfl trivial ?_
  refine go_obj (idx := 3) (p1 := 56) (by decide +kernel) (by decide +kernel) ⟨by decide, Nat.le_of_ble_eq_true rfl⟩ ?_
  refine go_blk (pc2 := 6) (L2 := [.ref 1]) (st2 := [.int 5, .ref 1]) (M2 := (ZA, ZG, ZP)) (hs2 := []) (C := True) [(.aload_n 0, 0, 0), (.iconst 5, 0, 0)] [] (by decide +kernel) rfl trivial ?_
  refine go_newarray (b := false) (N := 5) (by decide +kernel) rfl rfl (by decide) (by decide) (by decide +kernel) rfl ?_
  rw [zer_id (n := 2) (M := (ZA, ZG, ZP)) (fun _ => rfl) (fun _ => rfl) (fun _ => rfl)]
  refine go_blk (pc2 := 13) (L2 := [.ref 1]) (st2 := [.int 5, .ref 1]) (M2 := (ZA, ZG, (u2 ZP 1 0 (.ref 2)))) (hs2 := []) (C := True) [(.putfield 9, 0, 0), (.aload_n 0, 0, 0), (.iconst 5, 0, 0)] [] (by decide +kernel) rfl trivial ?_
  refine go_newarray (b := false) (N := 5) (by decide +kernel) rfl rfl (by decide) (by decide) (by decide +kernel) rfl ?_
  rw [zer_id (n := 3) (M := (ZA, ZG, (u2 ZP 1 0 (.ref 2)))) (fun _ => rfl) (fun _ => rfl) (fun _ => rfl)]
  refine go_blk (pc2 := 20) (L2 := [.ref 1]) (st2 := [.int 5, .ref 1]) (M2 := (ZA, ZG, (u2 (u2 ZP 1 0 (.ref 2)) 1 1 (.ref 3)))) (hs2 := []) (C := True) [(.putfield 15, 0, 1), (.aload_n 0, 0, 0), (.iconst 5, 0, 0)] [] (by decide +kernel) rfl trivial ?_
  refine go_newarray (b := false) (N := 5) (by decide +kernel) rfl rfl (by decide) (by decide) (by decide +kernel) rfl ?_
  rw [zer_id (n := 4) (M := (ZA, ZG, (u2 (u2 ZP 1 0 (.ref 2)) 1 1 (.ref 3)))) (fun _ => rfl) (fun _ => rfl) (fun _ => rfl)]
  refine go_blk (pc2 := 27) (L2 := [.ref 1]) (st2 := [.int 5, .ref 1]) (M2 := (ZA, ZG, (u2 (u2 (u2 ZP 1 0 (.ref 2)) 1 1 (.ref 3)) 1 2 (.ref 4)))) (hs2 := []) (C := True) [(.putfield 18, 0, 2), (.aload_n 0, 0, 0), (.iconst 5, 0, 0)] [] (by decide +kernel) rfl trivial ?_
  refine go_newarray (b := false) (N := 5) (by decide +kernel) rfl rfl (by decide) (by decide) (by decide +kernel) rfl ?_
  rw [zer_id (n := 5) (M := (ZA, ZG, (u2 (u2 (u2 ZP 1 0 (.ref 2)) 1 1 (.ref 3)) 1 2 (.ref 4)))) (fun _ => rfl) (fun _ => rfl) (fun _ => rfl)]
  refine go_blk (pc2 := 34) (L2 := [.ref 1]) (st2 := [.int 5, .ref 1]) (M2 := (ZA, ZG, (u2 (u2 (u2 (u2 ZP 1 0 (.ref 2)) 1 1 (.ref 3)) 1 2 (.ref 4)) 1 3 (.ref 5)))) (hs2 := []) (C := True) [(.putfield 21, 0, 3), (.aload_n 0, 0, 0), (.iconst 5, 0, 0)] [] (by decide +kernel) rfl trivial ?_
  refine go_newarray (b := false) (N := 5) (by decide +kernel) rfl rfl (by decide) (by decide) (by decide +kernel) rfl ?_
  rw [zer_id (n := 6) (M := (ZA, ZG, (u2 (u2 (u2 (u2 ZP 1 0 (.ref 2)) 1 1 (.ref 3)) 1 2 (.ref 4)) 1 3 (.ref 5)))) (fun _ => rfl) (fun _ => rfl) (fun _ => rfl)]
  refine go_blk (pc2 := 41) (L2 := [.ref 1]) (st2 := [.int 5, .ref 1]) (M2 := (ZA, ZG, (u2 (u2 (u2 (u2 (u2 ZP 1 0 (.ref 2)) 1 1 (.ref 3)) 1 2 (.ref 4)) 1 3 (.ref 5)) 1 4 (.ref 6)))) (hs2 := []) (C := True) [(.putfield 24, 0, 4), (.aload_n 0, 0, 0), (.iconst 5, 0, 0)] [] (by decide +kernel) rfl trivial ?_
  refine go_newarray (b := false) (N := 5) (by decide +kernel) rfl rfl (by decide) (by decide) (by decide +kernel) rfl ?_
  rw [zer_id (n := 7) (M := (ZA, ZG, (u2 (u2 (u2 (u2 (u2 ZP 1 0 (.ref 2)) 1 1 (.ref 3)) 1 2 (.ref 4)) 1 3 (.ref 5)) 1 4 (.ref 6)))) (fun _ => rfl) (fun _ => rfl) (fun _ => rfl)]
  refine go_blk (pc2 := 48) (L2 := [.ref 1]) (st2 := [.int 5, .ref 1]) (M2 := (ZA, ZG, (u2 (u2 (u2 (u2 (u2 (u2 ZP 1 0 (.ref 2)) 1 1 (.ref 3)) 1 2 (.ref 4)) 1 3 (.ref 5)) 1 4 (.ref 6)) 1 5 (.ref 7)))) (hs2 := []) (C := True) [(.putfield 27, 0, 5), (.aload_n 0, 0, 0), (.iconst 5, 0, 0)] [] (by decide +kernel) rfl trivial ?_
  refine go_newarray (b := false) (N := 5) (by decide +kernel) rfl rfl (by decide) (by decide) (by decide +kernel) rfl ?_
  rw [zer_id (n := 8) (M := (ZA, ZG, (u2 (u2 (u2 (u2 (u2 (u2 ZP 1 0 (.ref 2)) 1 1 (.ref 3)) 1 2 (.ref 4)) 1 3 (.ref 5)) 1 4 (.ref 6)) 1 5 (.ref 7)))) (fun _ => rfl) (fun _ => rfl) (fun _ => rfl)]
  refine go_blk (pc2 := 58) (L2 := [.ref 1]) (st2 := []) (M2 := ((u2 ZA 1 7 0), ZG, (u2 (u2 (u2 (u2 (u2 (u2 (u2 ZP 1 0 (.ref 2)) 1 1 (.ref 3)) 1 2 (.ref 4)) 1 3 (.ref 5)) 1 4 (.ref 6)) 1 5 (.ref 7)) 1 6 (.ref 8)))) (hs2 := []) (C := True) [(.putfield 30, 0, 6), (.aload_n 0, 0, 0), (.iconst 0, 0, 0), (.putfield 33, 0, 7)] [] (by decide +kernel) rfl trivial ?_
  exact go_retv (by decide +kernel) rfl (⟨rfl, rfl⟩)
def PS_0 : Nat → Nat → Value := (u2 MP_0 0 0 (.ref 1))
def MA_2 : Nat → Nat → Int32 := (u2 (u2 MA_0 9 2 0) 9 3 0)
def MP_2 : Nat → Nat → Value := (u2 (u2 PS_0 9 0 (.ref 10)) 9 1 (.ref 11))
set_option maxRecDepth 100000 in
set_option maxHeartbeats 4000000 in
theorem s_X2_init (l : Launch) : Sem l mX2_init [.ref 9] 10 (MA_0, ZG, PS_0) 12 (pm (MA_2, ZG, MP_2)) := by
  refine sem_of_go (by decide) rfl (by decide) (by decide) rfl (Nat.le_of_ble_eq_true rfl) ?_
  show Go l ro0 mX2_init 10 (MA_0, ZG, PS_0) 0 [.ref 9] [] 12 (pm (MA_2, ZG, MP_2))
  refine go_blk (pc2 := 1) (L2 := [.ref 9]) (st2 := [.ref 9]) (M2 := (MA_0, ZG, PS_0)) (hs2 := []) (C := True) [(.aload_n 0, 0, 0)] [] (by decide +kernel) rfl trivial ?_
  refine go_obj (idx := 3) (p1 := 92) (by decide +kernel) (by decide +kernel) ⟨by decide, Nat.le_of_ble_eq_true rfl⟩ ?_
  refine go_blk (pc2 := 7) (L2 := [.ref 9]) (st2 := [.int 24, .ref 9]) (M2 := (MA_0, ZG, PS_0)) (hs2 := []) (C := True) [(.aload_n 0, 0, 0), (.bipush 24, 0, 0)] [] (by decide +kernel) rfl trivial ?_
  refine go_newarray (b := false) (N := 24) (by decide +kernel) rfl rfl (by decide) (by decide) (by decide +kernel) rfl ?_
  rw [zer_id (n := 10) (M := (MA_0, ZG, PS_0)) (fun _ => rfl) (fun _ => rfl) (fun _ => rfl)]
  refine go_blk (pc2 := 14) (L2 := [.ref 9]) (st2 := [.int 4, .ref 9]) (M2 := (MA_0, ZG, (u2 PS_0 9 0 (.ref 10)))) (hs2 := []) (C := True) [(.putfield 9, 2, 0), (.aload_n 0, 0, 0), (.iconst 4, 0, 0)] [] (by decide +kernel) rfl trivial ?_
  refine go_newarray (b := false) (N := 4) (by decide +kernel) rfl rfl (by decide) (by decide) (by decide +kernel) rfl ?_
  rw [zer_id (n := 11) (M := (MA_0, ZG, (u2 PS_0 9 0 (.ref 10)))) (fun _ => rfl) (fun _ => rfl) (fun _ => rfl)]
  refine go_blk (pc2 := 29) (L2 := [.ref 9]) (st2 := []) (M2 := ((u2 (u2 MA_0 9 2 0) 9 3 0), ZG, (u2 (u2 PS_0 9 0 (.ref 10)) 9 1 (.ref 11)))) (hs2 := []) (C := True) [(.putfield 15, 2, 1), (.aload_n 0, 0, 0), (.iconst 0, 0, 0), (.putfield 18, 2, 2), (.aload_n 0, 0, 0), (.iconst 0, 0, 0), (.putfield 22, 2, 3)] [] (by decide +kernel) rfl trivial ?_
  exact go_retv (by decide +kernel) rfl (⟨rfl, rfl⟩)
def PS_2 : Nat → Nat → Value := (u2 MP_2 0 1 (.ref 9))
