set_option maxRecDepth 100000 in
set_option maxHeartbeats 4000000 in
theorem si155_0 (X : CX) (l : Launch) : ∀ q ∈ ([(0, iP 1 (fK (.inl 0))), (1, iP 2 (fIst 2)), (2, iP 3 (fIld 2)), (3, iP 6 (fK (.inl 252))), (6, iB 9 28 (b2 (fun x y => decide (y ≤ x)))), (9, iP 10 (fAld 0)), (10, iRR 13 (gtR 67)), (13, iP 16 (fK (.inl 252))), (16, iP 17 (fIld 1)), (17, iP 18 (f2I (fun x y => x * y))), (18, iP 19 (fIld 2)), (19, iP 20 (f2I (fun x y => x + y))), (20, iP 21 (fK (.inr (.inl 0)))), (21, iW 22 wAJ), (22, iP 25 (fInc 2 1)), (25, iP 2 fGo), (28, iRet rV)] : List (Nat × AS)), SI X l 155 q.1 q.2 := List.forall_mem_cons.mpr ⟨
  s_iconst (show decode (cod 155) 0 = .ok (.iconst 0, 1) by decide +kernel) rfl, List.forall_mem_cons.mpr ⟨
  s_istore_n (k := 2) (show decode (cod 155) 1 = .ok (.istore_n 2, 1) by decide +kernel), List.forall_mem_cons.mpr ⟨
  s_iload_n (k := 2) (show decode (cod 155) 2 = .ok (.iload_n 2, 1) by decide +kernel), List.forall_mem_cons.mpr ⟨
  s_sipush (show decode (cod 155) 3 = .ok (.sipush 252, 3) by decide +kernel) rfl, List.forall_mem_cons.mpr ⟨
  s_icmpge (show decode (cod 155) 6 = .ok (.if_icmp .ge 22, 3) by decide +kernel) (by decide), List.forall_mem_cons.mpr ⟨
  s_aload_n (k := 0) (show decode (cod 155) 9 = .ok (.aload_n 0, 1) by decide +kernel), List.forall_mem_cons.mpr ⟨
  s_getR (show decode (cod 155) 10 = .ok (.getfield 47, 3) by decide +kernel) wd_619 (Or.inl rfl) rfl, List.forall_mem_cons.mpr ⟨
  s_sipush (show decode (cod 155) 13 = .ok (.sipush 252, 3) by decide +kernel) rfl, List.forall_mem_cons.mpr ⟨
  s_iload_n (k := 1) (show decode (cod 155) 16 = .ok (.iload_n 1, 1) by decide +kernel), List.forall_mem_cons.mpr ⟨
  s_imul (show decode (cod 155) 17 = .ok (.imul, 1) by decide +kernel), List.forall_mem_cons.mpr ⟨
  s_iload_n (k := 2) (show decode (cod 155) 18 = .ok (.iload_n 2, 1) by decide +kernel), List.forall_mem_cons.mpr ⟨
  s_iadd (show decode (cod 155) 19 = .ok (.iadd, 1) by decide +kernel), List.forall_mem_cons.mpr ⟨
  s_lconst (show decode (cod 155) 20 = .ok (.lconst 0, 1) by decide +kernel) rfl, List.forall_mem_cons.mpr ⟨
  s_lastore (show decode (cod 155) 21 = .ok (.lastore, 1) by decide +kernel), List.forall_mem_cons.mpr ⟨
  s_iinc (show decode (cod 155) 22 = .ok (.iinc 2 1, 3) by decide +kernel) rfl, List.forall_mem_cons.mpr ⟨
  s_goto (show decode (cod 155) 25 = .ok (.goto (-23), 3) by decide +kernel) (by decide), List.forall_mem_cons.mpr ⟨
  s_ret (show decode (cod 155) 28 = .ok (.return_, 1) by decide +kernel) rV_ok (fun h => by cases h), fun _ h => by cases h⟩⟩⟩⟩⟩⟩⟩⟩⟩⟩⟩⟩⟩⟩⟩⟩⟩
set_option maxRecDepth 100000 in
theorem si155 (X : CX) (l : Launch) : ∀ q ∈ pt155, SI X l 155 q.1 q.2 :=  si155_0 X l
set_option maxRecDepth 100000 in
set_option maxHeartbeats 4000000 in
theorem si156_0 (X : CX) (l : Launch) : ∀ q ∈ ([(0, iP 1 (fAld 0)), (1, iP 2 (fIld 2)), (2, iCK 5 12 157 4 2 1), (5, iB 8 10 (b1 (fun x => decide (x ≠ 0)))), (8, iP 9 (fK (.inl 0))), (9, iRet rZ), (10, iP 11 (fK (.inl 0))), (11, iP 12 (fIst 3)), (12, iP 13 (fIld 3)), (13, iP 16 (fK (.inl 252))), (16, iB 19 52 (b2 (fun x y => decide (y ≤ x)))), (19, iP 20 (fAld 0)), (20, iRR 23 (gtR 67)), (23, iP 26 (fK (.inl 252))), (26, iP 27 (fIld 1)), (27, iP 28 (f2I (fun x y => x * y))), (28, iP 29 (fIld 3)), (29, iP 30 (f2I (fun x y => x + y))), (30, iP 31 fDup2), (31, iRJ 32 qAJ), (32, iP 33 (fAld 0)), (33, iRR 36 (gtR 67)), (36, iP 39 (fK (.inl 252))), (39, iP 40 (fIld 2)), (40, iP 41 (f2I (fun x y => x * y))), (41, iP 42 (fIld 3)), (42, iP 43 (f2I (fun x y => x + y))), (43, iRJ 44 qAJ), (44, iP 45 (f2J (fun x y => x + y))), (45, iW 46 wAJ), (46, iP 49 (fInc 3 1)), (49, iP 12 fGo), (52, iP 53 (fAld 0)), (53, iP 54 (fIld 1)), (54, iCK 57 12 157 4 2 1), (57, iRet rZ)] : List (Nat × AS)), SI X l 156 q.1 q.2 := List.forall_mem_cons.mpr ⟨
  s_aload_n (k := 0) (show decode (cod 156) 0 = .ok (.aload_n 0, 1) by decide +kernel), List.forall_mem_cons.mpr ⟨
  s_iload_n (k := 2) (show decode (cod 156) 1 = .ok (.iload_n 2, 1) by decide +kernel), List.forall_mem_cons.mpr ⟨
  s_invK rfl (rcv_virt (show decode (cod 156) 2 = .ok (.invokevirtual 188, 3) by decide +kernel) cld_156_157 ⟨11, _, _, rfl, by decide, rfl⟩ wd_724 wd_725 wd_726), List.forall_mem_cons.mpr ⟨
  s_ifne (show decode (cod 156) 5 = .ok (.ifCond .ne 5, 3) by decide +kernel) (by decide), List.forall_mem_cons.mpr ⟨
  s_iconst (show decode (cod 156) 8 = .ok (.iconst 0, 1) by decide +kernel) rfl, List.forall_mem_cons.mpr ⟨
  s_ret (show decode (cod 156) 9 = .ok (.ireturn, 1) by decide +kernel) rZ_ok (fun _ => rZ_b), List.forall_mem_cons.mpr ⟨
  s_iconst (show decode (cod 156) 10 = .ok (.iconst 0, 1) by decide +kernel) rfl, List.forall_mem_cons.mpr ⟨
  s_istore_n (k := 3) (show decode (cod 156) 11 = .ok (.istore_n 3, 1) by decide +kernel), List.forall_mem_cons.mpr ⟨
  s_iload_n (k := 3) (show decode (cod 156) 12 = .ok (.iload_n 3, 1) by decide +kernel), List.forall_mem_cons.mpr ⟨
  s_sipush (show decode (cod 156) 13 = .ok (.sipush 252, 3) by decide +kernel) rfl, List.forall_mem_cons.mpr ⟨
  s_icmpge (show decode (cod 156) 16 = .ok (.if_icmp .ge 36, 3) by decide +kernel) (by decide), List.forall_mem_cons.mpr ⟨
  s_aload_n (k := 0) (show decode (cod 156) 19 = .ok (.aload_n 0, 1) by decide +kernel), List.forall_mem_cons.mpr ⟨
  s_getR (show decode (cod 156) 20 = .ok (.getfield 47, 3) by decide +kernel) wd_619 (Or.inl rfl) rfl, List.forall_mem_cons.mpr ⟨
  s_sipush (show decode (cod 156) 23 = .ok (.sipush 252, 3) by decide +kernel) rfl, List.forall_mem_cons.mpr ⟨
  s_iload_n (k := 1) (show decode (cod 156) 26 = .ok (.iload_n 1, 1) by decide +kernel), List.forall_mem_cons.mpr ⟨
  s_imul (show decode (cod 156) 27 = .ok (.imul, 1) by decide +kernel), List.forall_mem_cons.mpr ⟨
  s_iload_n (k := 3) (show decode (cod 156) 28 = .ok (.iload_n 3, 1) by decide +kernel), List.forall_mem_cons.mpr ⟨
  s_iadd (show decode (cod 156) 29 = .ok (.iadd, 1) by decide +kernel), List.forall_mem_cons.mpr ⟨
  s_dup2 (show decode (cod 156) 30 = .ok (.dup2, 1) by decide +kernel), List.forall_mem_cons.mpr ⟨
  s_laload (show decode (cod 156) 31 = .ok (.laload, 1) by decide +kernel), List.forall_mem_cons.mpr ⟨
  s_aload_n (k := 0) (show decode (cod 156) 32 = .ok (.aload_n 0, 1) by decide +kernel), List.forall_mem_cons.mpr ⟨
  s_getR (show decode (cod 156) 33 = .ok (.getfield 47, 3) by decide +kernel) wd_619 (Or.inl rfl) rfl, List.forall_mem_cons.mpr ⟨
  s_sipush (show decode (cod 156) 36 = .ok (.sipush 252, 3) by decide +kernel) rfl, List.forall_mem_cons.mpr ⟨
  s_iload_n (k := 2) (show decode (cod 156) 39 = .ok (.iload_n 2, 1) by decide +kernel), List.forall_mem_cons.mpr ⟨
  s_imul (show decode (cod 156) 40 = .ok (.imul, 1) by decide +kernel), List.forall_mem_cons.mpr ⟨
  s_iload_n (k := 3) (show decode (cod 156) 41 = .ok (.iload_n 3, 1) by decide +kernel), List.forall_mem_cons.mpr ⟨
  s_iadd (show decode (cod 156) 42 = .ok (.iadd, 1) by decide +kernel), List.forall_mem_cons.mpr ⟨
  s_laload (show decode (cod 156) 43 = .ok (.laload, 1) by decide +kernel), List.forall_mem_cons.mpr ⟨
  s_ladd (show decode (cod 156) 44 = .ok (.ladd, 1) by decide +kernel), List.forall_mem_cons.mpr ⟨
  s_lastore (show decode (cod 156) 45 = .ok (.lastore, 1) by decide +kernel), List.forall_mem_cons.mpr ⟨
  s_iinc (show decode (cod 156) 46 = .ok (.iinc 3 1, 3) by decide +kernel) rfl, List.forall_mem_cons.mpr ⟨
  s_goto (show decode (cod 156) 49 = .ok (.goto (-37), 3) by decide +kernel) (by decide), List.forall_mem_cons.mpr ⟨
  s_aload_n (k := 0) (show decode (cod 156) 52 = .ok (.aload_n 0, 1) by decide +kernel), List.forall_mem_cons.mpr ⟨
  s_iload_n (k := 1) (show decode (cod 156) 53 = .ok (.iload_n 1, 1) by decide +kernel), List.forall_mem_cons.mpr ⟨
  s_invK rfl (rcv_virt (show decode (cod 156) 54 = .ok (.invokevirtual 188, 3) by decide +kernel) cld_156_157 ⟨11, _, _, rfl, by decide, rfl⟩ wd_724 wd_725 wd_726), List.forall_mem_cons.mpr ⟨
  s_ret (show decode (cod 156) 57 = .ok (.ireturn, 1) by decide +kernel) rZ_ok (fun _ => rZ_b), fun _ h => by cases h⟩⟩⟩⟩⟩⟩⟩⟩⟩⟩⟩⟩⟩⟩⟩⟩⟩⟩⟩⟩⟩⟩⟩⟩⟩⟩⟩⟩⟩⟩⟩⟩⟩⟩⟩⟩
set_option maxRecDepth 100000 in
theorem si156 (X : CX) (l : Launch) : ∀ q ∈ pt156, SI X l 156 q.1 q.2 :=  si156_0 X l
set_option maxRecDepth 100000 in
set_option maxHeartbeats 4000000 in
theorem si157_0 (X : CX) (l : Launch) : ∀ q ∈ ([(0, iP 1 (fK (.inl 1))), (1, iP 2 (fIst 2)), (2, iP 3 (fK (.inl 0))), (3, iP 4 (fIst 3)), (4, iP 5 (fIld 3)), (5, iP 8 (fK (.inl 252))), (8, iB 11 51 (b2 (fun x y => decide (y ≤ x)))), (11, iP 12 (fIld 2)), (12, iB 15 43 (b1 (fun x => decide (x = 0)))), (15, iP 16 (fAld 0)), (16, iRR 19 (gtR 67)), (19, iP 22 (fK (.inl 252))), (22, iP 23 (fIld 1)), (23, iP 24 (f2I (fun x y => x * y))), (24, iP 25 (fIld 3)), (25, iP 26 (f2I (fun x y => x + y))), (26, iRJ 27 qAJ), (27, iP 30 (fK (.inr (.inl (-8640000000))))), (30, iP 33 (fK (.inr (.inl 8640000000)))), (33, iC 36 130 6 3 1), (36, iB 39 43 (b1 (fun x => decide (x = 0)))), (39, iP 40 (fK (.inl 1))), (40, iP 44 fGo), (43, iP 44 (fK (.inl 0))), (44, iP 45 (fIst 2)), (45, iP 48 (fInc 3 1)), (48, iP 4 fGo), (51, iP 52 (fIld 2)), (52, iRet rZ)] : List (Nat × AS)), SI X l 157 q.1 q.2 := List.forall_mem_cons.mpr ⟨
  s_iconst (show decode (cod 157) 0 = .ok (.iconst 1, 1) by decide +kernel) rfl, List.forall_mem_cons.mpr ⟨
  s_istore_n (k := 2) (show decode (cod 157) 1 = .ok (.istore_n 2, 1) by decide +kernel), List.forall_mem_cons.mpr ⟨
  s_iconst (show decode (cod 157) 2 = .ok (.iconst 0, 1) by decide +kernel) rfl, List.forall_mem_cons.mpr ⟨
  s_istore_n (k := 3) (show decode (cod 157) 3 = .ok (.istore_n 3, 1) by decide +kernel), List.forall_mem_cons.mpr ⟨
  s_iload_n (k := 3) (show decode (cod 157) 4 = .ok (.iload_n 3, 1) by decide +kernel), List.forall_mem_cons.mpr ⟨
  s_sipush (show decode (cod 157) 5 = .ok (.sipush 252, 3) by decide +kernel) rfl, List.forall_mem_cons.mpr ⟨
  s_icmpge (show decode (cod 157) 8 = .ok (.if_icmp .ge 43, 3) by decide +kernel) (by decide), List.forall_mem_cons.mpr ⟨
  s_iload_n (k := 2) (show decode (cod 157) 11 = .ok (.iload_n 2, 1) by decide +kernel), List.forall_mem_cons.mpr ⟨
  s_ifeq (show decode (cod 157) 12 = .ok (.ifCond .eq 31, 3) by decide +kernel) (by decide), List.forall_mem_cons.mpr ⟨
  s_aload_n (k := 0) (show decode (cod 157) 15 = .ok (.aload_n 0, 1) by decide +kernel), List.forall_mem_cons.mpr ⟨
  s_getR (show decode (cod 157) 16 = .ok (.getfield 47, 3) by decide +kernel) wd_619 (Or.inl rfl) rfl, List.forall_mem_cons.mpr ⟨
  s_sipush (show decode (cod 157) 19 = .ok (.sipush 252, 3) by decide +kernel) rfl, List.forall_mem_cons.mpr ⟨
  s_iload_n (k := 1) (show decode (cod 157) 22 = .ok (.iload_n 1, 1) by decide +kernel), List.forall_mem_cons.mpr ⟨
  s_imul (show decode (cod 157) 23 = .ok (.imul, 1) by decide +kernel), List.forall_mem_cons.mpr ⟨
  s_iload_n (k := 3) (show decode (cod 157) 24 = .ok (.iload_n 3, 1) by decide +kernel), List.forall_mem_cons.mpr ⟨
  s_iadd (show decode (cod 157) 25 = .ok (.iadd, 1) by decide +kernel), List.forall_mem_cons.mpr ⟨
  s_laload (show decode (cod 157) 26 = .ok (.laload, 1) by decide +kernel), List.forall_mem_cons.mpr ⟨
  s_ldc2 (show decode (cod 157) 27 = .ok (.ldc2_w 175, 3) by decide +kernel) wd_727, List.forall_mem_cons.mpr ⟨
  s_ldc2 (show decode (cod 157) 30 = .ok (.ldc2_w 177, 3) by decide +kernel) wd_728, List.forall_mem_cons.mpr ⟨
  s_invS (show decode (cod 157) 33 = .ok (.invokestatic 100, 3) by decide +kernel) rfl cld_157_130 wd_641 wd_642, List.forall_mem_cons.mpr ⟨
  s_ifeq (show decode (cod 157) 36 = .ok (.ifCond .eq 7, 3) by decide +kernel) (by decide), List.forall_mem_cons.mpr ⟨
  s_iconst (show decode (cod 157) 39 = .ok (.iconst 1, 1) by decide +kernel) rfl, List.forall_mem_cons.mpr ⟨
  s_goto (show decode (cod 157) 40 = .ok (.goto 4, 3) by decide +kernel) (by decide), List.forall_mem_cons.mpr ⟨
  s_iconst (show decode (cod 157) 43 = .ok (.iconst 0, 1) by decide +kernel) rfl, List.forall_mem_cons.mpr ⟨
  s_istore_n (k := 2) (show decode (cod 157) 44 = .ok (.istore_n 2, 1) by decide +kernel), List.forall_mem_cons.mpr ⟨
  s_iinc (show decode (cod 157) 45 = .ok (.iinc 3 1, 3) by decide +kernel) rfl, List.forall_mem_cons.mpr ⟨
  s_goto (show decode (cod 157) 48 = .ok (.goto (-44), 3) by decide +kernel) (by decide), List.forall_mem_cons.mpr ⟨
  s_iload_n (k := 2) (show decode (cod 157) 51 = .ok (.iload_n 2, 1) by decide +kernel), List.forall_mem_cons.mpr ⟨
  s_ret (show decode (cod 157) 52 = .ok (.ireturn, 1) by decide +kernel) rZ_ok (fun _ => rZ_b), fun _ h => by cases h⟩⟩⟩⟩⟩⟩⟩⟩⟩⟩⟩⟩⟩⟩⟩⟩⟩⟩⟩⟩⟩⟩⟩⟩⟩⟩⟩⟩⟩
set_option maxRecDepth 100000 in
theorem si157 (X : CX) (l : Launch) : ∀ q ∈ pt157, SI X l 157 q.1 q.2 :=  si157_0 X l
set_option maxRecDepth 100000 in
set_option maxHeartbeats 4000000 in
theorem si158_0 (X : CX) (l : Launch) : ∀ q ∈ ([(0, iP 1 (fK (.inl 2))), (1, iP 2 (fIld 3)), (2, iP 3 (f2I (fun x y => x + y))), (3, iP 5 (fIst 4)), (5, iP 7 (fIld 4)), (7, iC 10 159 3 1 1), (10, iP 12 (fIst 5)), (12, iP 13 (fK (.inl 1))), (13, iP 15 (fIst 6)), (15, iP 16 (fK (.inl 0))), (16, iP 18 (fIst 7)), (18, iP 20 (fIld 7)), (20, iP 21 (fK (.inl 2))), (21, iP 22 (fIld 3)), (22, iP 23 (f2I (fun x y => x + y))), (23, iB 26 61 (b2 (fun x y => decide (y ≤ x)))), (26, iP 28 (fIld 6)), (28, iB 31 52 (b1 (fun x => decide (x = 0)))), (31, iP 32 (fAld 0)), (32, iRR 35 (gtR 55)), (35, iP 37 (fK (.inl 12))), (37, iP 38 (fIld 2)), (38, iP 39 (f2I (fun x y => x * y))), (39, iP 40 (fK (.inl 1))), (40, iP 41 (f2I (fun x y => x + y))), (41, iP 43 (fIld 7)), (43, iP 44 (f2I (fun x y => x + y))), (44, iRI 45 qAI), (45, iB 48 52 (b1 (fun x => decide (x ≠ 0)))), (48, iP 49 (fK (.inl 1))), (49, iP 53 fGo), (52, iP 53 (fK (.inl 0))), (53, iP 55 (fIst 6)), (55, iP 58 (fInc 7 1)), (58, iP 18 fGo), (61, iP 62 (fK (.inl 0))), (62, iP 64 (fIst 7)), (64, iP 66 (fIld 7)), (66, iP 69 (fK (.inl 252))), (69, iB 72 86 (b2 (fun x y => decide (y ≤ x))))] : List (Nat × AS)), SI X l 158 q.1 q.2 := List.forall_mem_cons.mpr ⟨
  s_iconst (show decode (cod 158) 0 = .ok (.iconst 2, 1) by decide +kernel) rfl, List.forall_mem_cons.mpr ⟨
  s_iload_n (k := 3) (show decode (cod 158) 1 = .ok (.iload_n 3, 1) by decide +kernel), List.forall_mem_cons.mpr ⟨
  s_iadd (show decode (cod 158) 2 = .ok (.iadd, 1) by decide +kernel), List.forall_mem_cons.mpr ⟨
  s_istore (k := 4) (show decode (cod 158) 3 = .ok (.istore 4, 2) by decide +kernel), List.forall_mem_cons.mpr ⟨
  s_iload (k := 4) (show decode (cod 158) 5 = .ok (.iload 4, 2) by decide +kernel), List.forall_mem_cons.mpr ⟨
  s_invS (show decode (cod 158) 7 = .ok (.invokestatic 179, 3) by decide +kernel) rfl cld_158_159 wd_730 wd_731, List.forall_mem_cons.mpr ⟨
  s_istore (k := 5) (show decode (cod 158) 10 = .ok (.istore 5, 2) by decide +kernel), List.forall_mem_cons.mpr ⟨
  s_iconst (show decode (cod 158) 12 = .ok (.iconst 1, 1) by decide +kernel) rfl, List.forall_mem_cons.mpr ⟨
  s_istore (k := 6) (show decode (cod 158) 13 = .ok (.istore 6, 2) by decide +kernel), List.forall_mem_cons.mpr ⟨
  s_iconst (show decode (cod 158) 15 = .ok (.iconst 0, 1) by decide +kernel) rfl, List.forall_mem_cons.mpr ⟨
  s_istore (k := 7) (show decode (cod 158) 16 = .ok (.istore 7, 2) by decide +kernel), List.forall_mem_cons.mpr ⟨
  s_iload (k := 7) (show decode (cod 158) 18 = .ok (.iload 7, 2) by decide +kernel), List.forall_mem_cons.mpr ⟨
  s_iconst (show decode (cod 158) 20 = .ok (.iconst 2, 1) by decide +kernel) rfl, List.forall_mem_cons.mpr ⟨
  s_iload_n (k := 3) (show decode (cod 158) 21 = .ok (.iload_n 3, 1) by decide +kernel), List.forall_mem_cons.mpr ⟨
  s_iadd (show decode (cod 158) 22 = .ok (.iadd, 1) by decide +kernel), List.forall_mem_cons.mpr ⟨
  s_icmpge (show decode (cod 158) 23 = .ok (.if_icmp .ge 38, 3) by decide +kernel) (by decide), List.forall_mem_cons.mpr ⟨
  s_iload (k := 6) (show decode (cod 158) 26 = .ok (.iload 6, 2) by decide +kernel), List.forall_mem_cons.mpr ⟨
  s_ifeq (show decode (cod 158) 28 = .ok (.ifCond .eq 24, 3) by decide +kernel) (by decide), List.forall_mem_cons.mpr ⟨
  s_aload_n (k := 0) (show decode (cod 158) 31 = .ok (.aload_n 0, 1) by decide +kernel), List.forall_mem_cons.mpr ⟨
  s_getR (show decode (cod 158) 32 = .ok (.getfield 22, 3) by decide +kernel) wd_611 (Or.inl rfl) rfl, List.forall_mem_cons.mpr ⟨
  s_bipush (show decode (cod 158) 35 = .ok (.bipush 12, 2) by decide +kernel) rfl, List.forall_mem_cons.mpr ⟨
  s_iload_n (k := 2) (show decode (cod 158) 37 = .ok (.iload_n 2, 1) by decide +kernel), List.forall_mem_cons.mpr ⟨
  s_imul (show decode (cod 158) 38 = .ok (.imul, 1) by decide +kernel), List.forall_mem_cons.mpr ⟨
  s_iconst (show decode (cod 158) 39 = .ok (.iconst 1, 1) by decide +kernel) rfl, List.forall_mem_cons.mpr ⟨
  s_iadd (show decode (cod 158) 40 = .ok (.iadd, 1) by decide +kernel), List.forall_mem_cons.mpr ⟨
  s_iload (k := 7) (show decode (cod 158) 41 = .ok (.iload 7, 2) by decide +kernel), List.forall_mem_cons.mpr ⟨
  s_iadd (show decode (cod 158) 43 = .ok (.iadd, 1) by decide +kernel), List.forall_mem_cons.mpr ⟨
  s_iaload (show decode (cod 158) 44 = .ok (.iaload, 1) by decide +kernel), List.forall_mem_cons.mpr ⟨
  s_ifne (show decode (cod 158) 45 = .ok (.ifCond .ne 7, 3) by decide +kernel) (by decide), List.forall_mem_cons.mpr ⟨
  s_iconst (show decode (cod 158) 48 = .ok (.iconst 1, 1) by decide +kernel) rfl, List.forall_mem_cons.mpr ⟨
  s_goto (show decode (cod 158) 49 = .ok (.goto 4, 3) by decide +kernel) (by decide), List.forall_mem_cons.mpr ⟨
  s_iconst (show decode (cod 158) 52 = .ok (.iconst 0, 1) by decide +kernel) rfl, List.forall_mem_cons.mpr ⟨
  s_istore (k := 6) (show decode (cod 158) 53 = .ok (.istore 6, 2) by decide +kernel), List.forall_mem_cons.mpr ⟨
  s_iinc (show decode (cod 158) 55 = .ok (.iinc 7 1, 3) by decide +kernel) rfl, List.forall_mem_cons.mpr ⟨
  s_goto (show decode (cod 158) 58 = .ok (.goto (-40), 3) by decide +kernel) (by decide), List.forall_mem_cons.mpr ⟨
  s_iconst (show decode (cod 158) 61 = .ok (.iconst 0, 1) by decide +kernel) rfl, List.forall_mem_cons.mpr ⟨
  s_istore (k := 7) (show decode (cod 158) 62 = .ok (.istore 7, 2) by decide +kernel), List.forall_mem_cons.mpr ⟨
  s_iload (k := 7) (show decode (cod 158) 64 = .ok (.iload 7, 2) by decide +kernel), List.forall_mem_cons.mpr ⟨
  s_sipush (show decode (cod 158) 66 = .ok (.sipush 252, 3) by decide +kernel) rfl, List.forall_mem_cons.mpr ⟨
  s_icmpge (show decode (cod 158) 69 = .ok (.if_icmp .ge 17, 3) by decide +kernel) (by decide), fun _ h => by cases h⟩⟩⟩⟩⟩⟩⟩⟩⟩⟩⟩⟩⟩⟩⟩⟩⟩⟩⟩⟩⟩⟩⟩⟩⟩⟩⟩⟩⟩⟩⟩⟩⟩⟩⟩⟩⟩⟩⟩⟩
set_option maxRecDepth 100000 in
set_option maxHeartbeats 4000000 in
theorem si158_1 (X : CX) (l : Launch) : ∀ q ∈ ([(72, iP 73 (fAld 0)), (73, iRR 76 (gtR 71)), (76, iP 78 (fIld 7)), (78, iP 79 (fK (.inr (.inl 0)))), (79, iW 80 wAJ), (80, iP 83 (fInc 7 1)), (83, iP 64 fGo), (86, iP 88 (fIld 6)), (88, iB 91 224 (b1 (fun x => decide (x = 0)))), (91, iP 92 (fK (.inl 0))), (92, iP 94 (fIst 7)), (94, iP 96 (fIld 7)), (96, iP 99 (fK (.inl 252))), (99, iB 102 221 (b2 (fun x y => decide (y ≤ x)))), (102, iP 103 (fAld 0)), (103, iRR 106 (gtR 67)), (106, iP 109 (fK (.inl 252))), (109, iP 110 (fIld 1)), (110, iP 111 (f2I (fun x y => x * y))), (111, iP 113 (fIld 7)), (113, iP 114 (f2I (fun x y => x + y))), (114, iRJ 115 qAJ), (115, iP 117 (fLst 8)), (117, iP 118 (fAld 0)), (118, iRR 121 (gtR 61)), (121, iP 122 (fK (.inl 5))), (122, iP 124 (fIld 7)), (124, iP 125 (f2I (fun x y => x * y))), (125, iP 127 (fIld 4)), (127, iP 128 (f2I (fun x y => x + y))), (128, iRI 129 qAI), (129, iP 131 (fIst 10)), (131, iP 132 (fAld 0)), (132, iRR 135 (gtR 62)), (135, iP 136 (fAld 0)), (136, iP 138 (fIld 7)), (138, iCK 141 12 160 4 2 1), (141, iP 143 (fIld 10)), (143, iP 145 (fIld 5)), (145, iP 146 (f2I (fun x y => x * y)))] : List (Nat × AS)), SI X l 158 q.1 q.2 := List.forall_mem_cons.mpr ⟨
  s_aload_n (k := 0) (show decode (cod 158) 72 = .ok (.aload_n 0, 1) by decide +kernel), List.forall_mem_cons.mpr ⟨
  s_getR (show decode (cod 158) 73 = .ok (.getfield 61, 3) by decide +kernel) wd_624 (Or.inl rfl) rfl, List.forall_mem_cons.mpr ⟨
  s_iload (k := 7) (show decode (cod 158) 76 = .ok (.iload 7, 2) by decide +kernel), List.forall_mem_cons.mpr ⟨
  s_lconst (show decode (cod 158) 78 = .ok (.lconst 0, 1) by decide +kernel) rfl, List.forall_mem_cons.mpr ⟨
  s_lastore (show decode (cod 158) 79 = .ok (.lastore, 1) by decide +kernel), List.forall_mem_cons.mpr ⟨
  s_iinc (show decode (cod 158) 80 = .ok (.iinc 7 1, 3) by decide +kernel) rfl, List.forall_mem_cons.mpr ⟨
  s_goto (show decode (cod 158) 83 = .ok (.goto (-19), 3) by decide +kernel) (by decide), List.forall_mem_cons.mpr ⟨
  s_iload (k := 6) (show decode (cod 158) 86 = .ok (.iload 6, 2) by decide +kernel), List.forall_mem_cons.mpr ⟨
  s_ifeq (show decode (cod 158) 88 = .ok (.ifCond .eq 136, 3) by decide +kernel) (by decide), List.forall_mem_cons.mpr ⟨
  s_iconst (show decode (cod 158) 91 = .ok (.iconst 0, 1) by decide +kernel) rfl, List.forall_mem_cons.mpr ⟨
  s_istore (k := 7) (show decode (cod 158) 92 = .ok (.istore 7, 2) by decide +kernel), List.forall_mem_cons.mpr ⟨
  s_iload (k := 7) (show decode (cod 158) 94 = .ok (.iload 7, 2) by decide +kernel), List.forall_mem_cons.mpr ⟨
  s_sipush (show decode (cod 158) 96 = .ok (.sipush 252, 3) by decide +kernel) rfl, List.forall_mem_cons.mpr ⟨
  s_icmpge (show decode (cod 158) 99 = .ok (.if_icmp .ge 122, 3) by decide +kernel) (by decide), List.forall_mem_cons.mpr ⟨
  s_aload_n (k := 0) (show decode (cod 158) 102 = .ok (.aload_n 0, 1) by decide +kernel), List.forall_mem_cons.mpr ⟨
  s_getR (show decode (cod 158) 103 = .ok (.getfield 47, 3) by decide +kernel) wd_619 (Or.inl rfl) rfl, List.forall_mem_cons.mpr ⟨
  s_sipush (show decode (cod 158) 106 = .ok (.sipush 252, 3) by decide +kernel) rfl, List.forall_mem_cons.mpr ⟨
  s_iload_n (k := 1) (show decode (cod 158) 109 = .ok (.iload_n 1, 1) by decide +kernel), List.forall_mem_cons.mpr ⟨
  s_imul (show decode (cod 158) 110 = .ok (.imul, 1) by decide +kernel), List.forall_mem_cons.mpr ⟨
  s_iload (k := 7) (show decode (cod 158) 111 = .ok (.iload 7, 2) by decide +kernel), List.forall_mem_cons.mpr ⟨
  s_iadd (show decode (cod 158) 113 = .ok (.iadd, 1) by decide +kernel), List.forall_mem_cons.mpr ⟨
  s_laload (show decode (cod 158) 114 = .ok (.laload, 1) by decide +kernel), List.forall_mem_cons.mpr ⟨
  s_lstore (k := 8) (show decode (cod 158) 115 = .ok (.lstore 8, 2) by decide +kernel), List.forall_mem_cons.mpr ⟨
  s_aload_n (k := 0) (show decode (cod 158) 117 = .ok (.aload_n 0, 1) by decide +kernel), List.forall_mem_cons.mpr ⟨
  s_getR (show decode (cod 158) 118 = .ok (.getfield 35, 3) by decide +kernel) wd_615 (Or.inl rfl) rfl, List.forall_mem_cons.mpr ⟨
  s_iconst (show decode (cod 158) 121 = .ok (.iconst 5, 1) by decide +kernel) rfl, List.forall_mem_cons.mpr ⟨
  s_iload (k := 7) (show decode (cod 158) 122 = .ok (.iload 7, 2) by decide +kernel), List.forall_mem_cons.mpr ⟨
  s_imul (show decode (cod 158) 124 = .ok (.imul, 1) by decide +kernel), List.forall_mem_cons.mpr ⟨
  s_iload (k := 4) (show decode (cod 158) 125 = .ok (.iload 4, 2) by decide +kernel), List.forall_mem_cons.mpr ⟨
  s_iadd (show decode (cod 158) 127 = .ok (.iadd, 1) by decide +kernel), List.forall_mem_cons.mpr ⟨
  s_iaload (show decode (cod 158) 128 = .ok (.iaload, 1) by decide +kernel), List.forall_mem_cons.mpr ⟨
  s_istore (k := 10) (show decode (cod 158) 129 = .ok (.istore 10, 2) by decide +kernel), List.forall_mem_cons.mpr ⟨
  s_aload_n (k := 0) (show decode (cod 158) 131 = .ok (.aload_n 0, 1) by decide +kernel), List.forall_mem_cons.mpr ⟨
  s_getR (show decode (cod 158) 132 = .ok (.getfield 38, 3) by decide +kernel) wd_616 (Or.inl rfl) rfl, List.forall_mem_cons.mpr ⟨
  s_aload_n (k := 0) (show decode (cod 158) 135 = .ok (.aload_n 0, 1) by decide +kernel), List.forall_mem_cons.mpr ⟨
  s_iload (k := 7) (show decode (cod 158) 136 = .ok (.iload 7, 2) by decide +kernel), List.forall_mem_cons.mpr ⟨
  s_invK rfl (rcv_virt (show decode (cod 158) 138 = .ok (.invokevirtual 169, 3) by decide +kernel) cld_158_160 ⟨11, _, _, rfl, by decide, rfl⟩ wd_733 wd_734 wd_735), List.forall_mem_cons.mpr ⟨
  s_iload (k := 10) (show decode (cod 158) 141 = .ok (.iload 10, 2) by decide +kernel), List.forall_mem_cons.mpr ⟨
  s_iload (k := 5) (show decode (cod 158) 143 = .ok (.iload 5, 2) by decide +kernel), List.forall_mem_cons.mpr ⟨
  s_imul (show decode (cod 158) 145 = .ok (.imul, 1) by decide +kernel), fun _ h => by cases h⟩⟩⟩⟩⟩⟩⟩⟩⟩⟩⟩⟩⟩⟩⟩⟩⟩⟩⟩⟩⟩⟩⟩⟩⟩⟩⟩⟩⟩⟩⟩⟩⟩⟩⟩⟩⟩⟩⟩⟩
set_option maxRecDepth 100000 in
set_option maxHeartbeats 4000000 in
theorem si158_2 (X : CX) (l : Launch) : ∀ q ∈ ([(146, iP 147 (f2I (fun x y => x - y))), (147, iRI 148 qAI), (148, iP 150 (fIst 11)), (150, iP 151 (fK (.inl 1))), (151, iP 153 (fIst 12)), (153, iP 155 (fIld 12)), (155, iP 156 (fAld 0)), (156, iRR 159 (gtR 55)), (159, iP 161 (fK (.inl 12))), (161, iP 162 (fIld 2)), (162, iP 163 (f2I (fun x y => x * y))), (163, iRI 164 qAI), (164, iB 167 215 (b2 (fun x y => decide (y < x)))), (167, iP 168 (fK (.inr (.inl 1)))), (168, iP 170 (fLst 13)), (170, iP 171 (fK (.inl 0))), (171, iP 173 (fIst 15)), (173, iP 175 (fIld 15)), (175, iP 177 (fIld 10)), (177, iB 180 194 (b2 (fun x y => decide (y ≤ x)))), (180, iP 182 (fJld 13)), (182, iP 184 (fIld 12)), (184, iP 185 fI2l), (185, iP 186 (f2J (fun x y => x * y))), (186, iP 188 (fLst 13)), (188, iP 191 (fInc 15 1)), (191, iP 173 fGo), (194, iP 195 (fAld 0)), (195, iRR 198 (gtR 71)), (198, iP 200 (fIld 11)), (200, iP 201 fDup2), (201, iRJ 202 qAJ), (202, iP 204 (fJld 8)), (204, iP 206 (fJld 13)), (206, iP 207 (f2J (fun x y => x * y))), (207, iP 208 (f2J (fun x y => x + y))), (208, iW 209 wAJ), (209, iP 212 (fInc 12 1)), (212, iP 153 fGo), (215, iP 218 (fInc 7 1))] : List (Nat × AS)), SI X l 158 q.1 q.2 := List.forall_mem_cons.mpr ⟨
  s_isub (show decode (cod 158) 146 = .ok (.isub, 1) by decide +kernel), List.forall_mem_cons.mpr ⟨
  s_iaload (show decode (cod 158) 147 = .ok (.iaload, 1) by decide +kernel), List.forall_mem_cons.mpr ⟨
  s_istore (k := 11) (show decode (cod 158) 148 = .ok (.istore 11, 2) by decide +kernel), List.forall_mem_cons.mpr ⟨
  s_iconst (show decode (cod 158) 150 = .ok (.iconst 1, 1) by decide +kernel) rfl, List.forall_mem_cons.mpr ⟨
  s_istore (k := 12) (show decode (cod 158) 151 = .ok (.istore 12, 2) by decide +kernel), List.forall_mem_cons.mpr ⟨
  s_iload (k := 12) (show decode (cod 158) 153 = .ok (.iload 12, 2) by decide +kernel), List.forall_mem_cons.mpr ⟨
  s_aload_n (k := 0) (show decode (cod 158) 155 = .ok (.aload_n 0, 1) by decide +kernel), List.forall_mem_cons.mpr ⟨
  s_getR (show decode (cod 158) 156 = .ok (.getfield 22, 3) by decide +kernel) wd_611 (Or.inl rfl) rfl, List.forall_mem_cons.mpr ⟨
  s_bipush (show decode (cod 158) 159 = .ok (.bipush 12, 2) by decide +kernel) rfl, List.forall_mem_cons.mpr ⟨
  s_iload_n (k := 2) (show decode (cod 158) 161 = .ok (.iload_n 2, 1) by decide +kernel), List.forall_mem_cons.mpr ⟨
  s_imul (show decode (cod 158) 162 = .ok (.imul, 1) by decide +kernel), List.forall_mem_cons.mpr ⟨
  s_iaload (show decode (cod 158) 163 = .ok (.iaload, 1) by decide +kernel), List.forall_mem_cons.mpr ⟨
  s_icmpgt (show decode (cod 158) 164 = .ok (.if_icmp .gt 51, 3) by decide +kernel) (by decide), List.forall_mem_cons.mpr ⟨
  s_lconst (show decode (cod 158) 167 = .ok (.lconst 1, 1) by decide +kernel) rfl, List.forall_mem_cons.mpr ⟨
  s_lstore (k := 13) (show decode (cod 158) 168 = .ok (.lstore 13, 2) by decide +kernel), List.forall_mem_cons.mpr ⟨
  s_iconst (show decode (cod 158) 170 = .ok (.iconst 0, 1) by decide +kernel) rfl, List.forall_mem_cons.mpr ⟨
  s_istore (k := 15) (show decode (cod 158) 171 = .ok (.istore 15, 2) by decide +kernel), List.forall_mem_cons.mpr ⟨
  s_iload (k := 15) (show decode (cod 158) 173 = .ok (.iload 15, 2) by decide +kernel), List.forall_mem_cons.mpr ⟨
  s_iload (k := 10) (show decode (cod 158) 175 = .ok (.iload 10, 2) by decide +kernel), List.forall_mem_cons.mpr ⟨
  s_icmpge (show decode (cod 158) 177 = .ok (.if_icmp .ge 17, 3) by decide +kernel) (by decide), List.forall_mem_cons.mpr ⟨
  s_lload (k := 13) (show decode (cod 158) 180 = .ok (.lload 13, 2) by decide +kernel), List.forall_mem_cons.mpr ⟨
  s_iload (k := 12) (show decode (cod 158) 182 = .ok (.iload 12, 2) by decide +kernel), List.forall_mem_cons.mpr ⟨
  s_i2l (show decode (cod 158) 184 = .ok (.i2l, 1) by decide +kernel), List.forall_mem_cons.mpr ⟨
  s_lmul (show decode (cod 158) 185 = .ok (.lmul, 1) by decide +kernel), List.forall_mem_cons.mpr ⟨
  s_lstore (k := 13) (show decode (cod 158) 186 = .ok (.lstore 13, 2) by decide +kernel), List.forall_mem_cons.mpr ⟨
  s_iinc (show decode (cod 158) 188 = .ok (.iinc 15 1, 3) by decide +kernel) rfl, List.forall_mem_cons.mpr ⟨
  s_goto (show decode (cod 158) 191 = .ok (.goto (-18), 3) by decide +kernel) (by decide), List.forall_mem_cons.mpr ⟨
  s_aload_n (k := 0) (show decode (cod 158) 194 = .ok (.aload_n 0, 1) by decide +kernel), List.forall_mem_cons.mpr ⟨
  s_getR (show decode (cod 158) 195 = .ok (.getfield 61, 3) by decide +kernel) wd_624 (Or.inl rfl) rfl, List.forall_mem_cons.mpr ⟨
  s_iload (k := 11) (show decode (cod 158) 198 = .ok (.iload 11, 2) by decide +kernel), List.forall_mem_cons.mpr ⟨
  s_dup2 (show decode (cod 158) 200 = .ok (.dup2, 1) by decide +kernel), List.forall_mem_cons.mpr ⟨
  s_laload (show decode (cod 158) 201 = .ok (.laload, 1) by decide +kernel), List.forall_mem_cons.mpr ⟨
  s_lload (k := 8) (show decode (cod 158) 202 = .ok (.lload 8, 2) by decide +kernel), List.forall_mem_cons.mpr ⟨
  s_lload (k := 13) (show decode (cod 158) 204 = .ok (.lload 13, 2) by decide +kernel), List.forall_mem_cons.mpr ⟨
  s_lmul (show decode (cod 158) 206 = .ok (.lmul, 1) by decide +kernel), List.forall_mem_cons.mpr ⟨
  s_ladd (show decode (cod 158) 207 = .ok (.ladd, 1) by decide +kernel), List.forall_mem_cons.mpr ⟨
  s_lastore (show decode (cod 158) 208 = .ok (.lastore, 1) by decide +kernel), List.forall_mem_cons.mpr ⟨
  s_iinc (show decode (cod 158) 209 = .ok (.iinc 12 1, 3) by decide +kernel) rfl, List.forall_mem_cons.mpr ⟨
  s_goto (show decode (cod 158) 212 = .ok (.goto (-59), 3) by decide +kernel) (by decide), List.forall_mem_cons.mpr ⟨
  s_iinc (show decode (cod 158) 215 = .ok (.iinc 7 1, 3) by decide +kernel) rfl, fun _ h => by cases h⟩⟩⟩⟩⟩⟩⟩⟩⟩⟩⟩⟩⟩⟩⟩⟩⟩⟩⟩⟩⟩⟩⟩⟩⟩⟩⟩⟩⟩⟩⟩⟩⟩⟩⟩⟩⟩⟩⟩⟩
set_option maxRecDepth 100000 in
set_option maxHeartbeats 4000000 in
theorem si158_3 (X : CX) (l : Launch) : ∀ q ∈ ([(218, iP 94 fGo), (221, iP 474 fGo), (224, iP 225 (fAld 0)), (225, iP 227 (fK (.inl 58))), (227, iP 228 (fIld 2)), (228, iP 229 (fK (.inl 0))), (229, iP 230 (fIld 3)), (230, iCK 233 12 161 13 5 0), (233, iP 234 (fK (.inl 0))), (234, iP 236 (fIst 7)), (236, iP 238 (fIld 7)), (238, iP 241 (fK (.inl 252))), (241, iB 244 426 (b2 (fun x y => decide (y ≤ x)))), (244, iP 245 (fAld 0)), (245, iRR 248 (gtR 67)), (248, iP 251 (fK (.inl 252))), (251, iP 252 (fIld 1)), (252, iP 253 (f2I (fun x y => x * y))), (253, iP 255 (fIld 7)), (255, iP 256 (f2I (fun x y => x + y))), (256, iRJ 257 qAJ), (257, iP 259 (fLst 8)), (259, iP 261 (fJld 8)), (261, iP 262 (fK (.inr (.inl 0)))), (262, iP 263 fLcmp), (263, iB 266 420 (b1 (fun x => decide (x = 0)))), (266, iP 267 (fAld 0)), (267, iP 269 (fIld 7)), (269, iCK 272 12 162 4 2 1), (272, iP 273 (fK (.inl 5))), (273, iB 276 278 (b2 (fun x y => decide (x ≠ y)))), (276, iP 277 (fK (.inl 0))), (277, iRet rZ), (278, iP 279 (fAld 0)), (279, iRR 282 (gtR 61)), (282, iP 283 (fK (.inl 5))), (283, iP 285 (fIld 7)), (285, iP 286 (f2I (fun x y => x * y))), (286, iP 288 (fIld 4)), (288, iP 289 (f2I (fun x y => x + y)))] : List (Nat × AS)), SI X l 158 q.1 q.2 := List.forall_mem_cons.mpr ⟨
  s_goto (show decode (cod 158) 218 = .ok (.goto (-124), 3) by decide +kernel) (by decide), List.forall_mem_cons.mpr ⟨
  s_goto (show decode (cod 158) 221 = .ok (.goto 253, 3) by decide +kernel) (by decide), List.forall_mem_cons.mpr ⟨
  s_aload_n (k := 0) (show decode (cod 158) 224 = .ok (.aload_n 0, 1) by decide +kernel), List.forall_mem_cons.mpr ⟨
  s_bipush (show decode (cod 158) 225 = .ok (.bipush 58, 2) by decide +kernel) rfl, List.forall_mem_cons.mpr ⟨
  s_iload_n (k := 2) (show decode (cod 158) 227 = .ok (.iload_n 2, 1) by decide +kernel), List.forall_mem_cons.mpr ⟨
  s_iconst (show decode (cod 158) 228 = .ok (.iconst 0, 1) by decide +kernel) rfl, List.forall_mem_cons.mpr ⟨
  s_iload_n (k := 3) (show decode (cod 158) 229 = .ok (.iload_n 3, 1) by decide +kernel), List.forall_mem_cons.mpr ⟨
  s_invK rfl (rcv_virt (show decode (cod 158) 230 = .ok (.invokevirtual 182, 3) by decide +kernel) cld_158_161 ⟨11, _, _, rfl, by decide, rfl⟩ wd_737 wd_738 wd_739), List.forall_mem_cons.mpr ⟨
  s_iconst (show decode (cod 158) 233 = .ok (.iconst 0, 1) by decide +kernel) rfl, List.forall_mem_cons.mpr ⟨
  s_istore (k := 7) (show decode (cod 158) 234 = .ok (.istore 7, 2) by decide +kernel), List.forall_mem_cons.mpr ⟨
  s_iload (k := 7) (show decode (cod 158) 236 = .ok (.iload 7, 2) by decide +kernel), List.forall_mem_cons.mpr ⟨
  s_sipush (show decode (cod 158) 238 = .ok (.sipush 252, 3) by decide +kernel) rfl, List.forall_mem_cons.mpr ⟨
  s_icmpge (show decode (cod 158) 241 = .ok (.if_icmp .ge 185, 3) by decide +kernel) (by decide), List.forall_mem_cons.mpr ⟨
  s_aload_n (k := 0) (show decode (cod 158) 244 = .ok (.aload_n 0, 1) by decide +kernel), List.forall_mem_cons.mpr ⟨
  s_getR (show decode (cod 158) 245 = .ok (.getfield 47, 3) by decide +kernel) wd_619 (Or.inl rfl) rfl, List.forall_mem_cons.mpr ⟨
  s_sipush (show decode (cod 158) 248 = .ok (.sipush 252, 3) by decide +kernel) rfl, List.forall_mem_cons.mpr ⟨
  s_iload_n (k := 1) (show decode (cod 158) 251 = .ok (.iload_n 1, 1) by decide +kernel), List.forall_mem_cons.mpr ⟨
  s_imul (show decode (cod 158) 252 = .ok (.imul, 1) by decide +kernel), List.forall_mem_cons.mpr ⟨
  s_iload (k := 7) (show decode (cod 158) 253 = .ok (.iload 7, 2) by decide +kernel), List.forall_mem_cons.mpr ⟨
  s_iadd (show decode (cod 158) 255 = .ok (.iadd, 1) by decide +kernel), List.forall_mem_cons.mpr ⟨
  s_laload (show decode (cod 158) 256 = .ok (.laload, 1) by decide +kernel), List.forall_mem_cons.mpr ⟨
  s_lstore (k := 8) (show decode (cod 158) 257 = .ok (.lstore 8, 2) by decide +kernel), List.forall_mem_cons.mpr ⟨
  s_lload (k := 8) (show decode (cod 158) 259 = .ok (.lload 8, 2) by decide +kernel), List.forall_mem_cons.mpr ⟨
  s_lconst (show decode (cod 158) 261 = .ok (.lconst 0, 1) by decide +kernel) rfl, List.forall_mem_cons.mpr ⟨
  s_lcmp (show decode (cod 158) 262 = .ok (.lcmp, 1) by decide +kernel), List.forall_mem_cons.mpr ⟨
  s_ifeq (show decode (cod 158) 263 = .ok (.ifCond .eq 157, 3) by decide +kernel) (by decide), List.forall_mem_cons.mpr ⟨
  s_aload_n (k := 0) (show decode (cod 158) 266 = .ok (.aload_n 0, 1) by decide +kernel), List.forall_mem_cons.mpr ⟨
  s_iload (k := 7) (show decode (cod 158) 267 = .ok (.iload 7, 2) by decide +kernel), List.forall_mem_cons.mpr ⟨
  s_invK rfl (rcv_virt (show decode (cod 158) 269 = .ok (.invokevirtual 172, 3) by decide +kernel) cld_158_162 ⟨11, _, _, rfl, by decide, rfl⟩ wd_741 wd_742 wd_743), List.forall_mem_cons.mpr ⟨
  s_iconst (show decode (cod 158) 272 = .ok (.iconst 5, 1) by decide +kernel) rfl, List.forall_mem_cons.mpr ⟨
  s_icmpne (show decode (cod 158) 273 = .ok (.if_icmp .ne 5, 3) by decide +kernel) (by decide), List.forall_mem_cons.mpr ⟨
  s_iconst (show decode (cod 158) 276 = .ok (.iconst 0, 1) by decide +kernel) rfl, List.forall_mem_cons.mpr ⟨
  s_ret (show decode (cod 158) 277 = .ok (.ireturn, 1) by decide +kernel) rZ_ok (fun _ => rZ_b), List.forall_mem_cons.mpr ⟨
  s_aload_n (k := 0) (show decode (cod 158) 278 = .ok (.aload_n 0, 1) by decide +kernel), List.forall_mem_cons.mpr ⟨
  s_getR (show decode (cod 158) 279 = .ok (.getfield 35, 3) by decide +kernel) wd_615 (Or.inl rfl) rfl, List.forall_mem_cons.mpr ⟨
  s_iconst (show decode (cod 158) 282 = .ok (.iconst 5, 1) by decide +kernel) rfl, List.forall_mem_cons.mpr ⟨
  s_iload (k := 7) (show decode (cod 158) 283 = .ok (.iload 7, 2) by decide +kernel), List.forall_mem_cons.mpr ⟨
  s_imul (show decode (cod 158) 285 = .ok (.imul, 1) by decide +kernel), List.forall_mem_cons.mpr ⟨
  s_iload (k := 4) (show decode (cod 158) 286 = .ok (.iload 4, 2) by decide +kernel), List.forall_mem_cons.mpr ⟨
  s_iadd (show decode (cod 158) 288 = .ok (.iadd, 1) by decide +kernel), fun _ h => by cases h⟩⟩⟩⟩⟩⟩⟩⟩⟩⟩⟩⟩⟩⟩⟩⟩⟩⟩⟩⟩⟩⟩⟩⟩⟩⟩⟩⟩⟩⟩⟩⟩⟩⟩⟩⟩⟩⟩⟩⟩
set_option maxRecDepth 100000 in
set_option maxHeartbeats 4000000 in
theorem si158_4 (X : CX) (l : Launch) : ∀ q ∈ ([(289, iRI 290 qAI), (290, iP 292 (fIst 10)), (292, iP 293 (fAld 0)), (293, iP 295 (fIld 7)), (295, iCK 298 12 160 4 2 1), (298, iP 300 (fIld 10)), (300, iP 302 (fIld 5)), (302, iP 303 (f2I (fun x y => x * y))), (303, iP 304 (f2I (fun x y => x - y))), (304, iP 306 (fIst 11)), (306, iP 307 (fK (.inl 1))), (307, iP 309 (fIst 12)), (309, iP 311 (fIld 12)), (311, iP 313 (fIld 10)), (313, iP 314 (fK (.inl 1))), (314, iP 315 (f2I (fun x y => x + y))), (315, iB 318 420 (b2 (fun x y => decide (y < x)))), (318, iP 320 (fJld 8)), (320, iP 321 (fAld 0)), (321, iRR 324 (gtR 73)), (324, iP 326 (fK (.inl 6))), (326, iP 328 (fIld 10)), (328, iP 329 (f2I (fun x y => x * y))), (329, iP 331 (fIld 12)), (331, iP 332 (f2I (fun x y => x + y))), (332, iRI 333 qAI), (333, iP 334 fI2l), (334, iP 335 (f2J (fun x y => x * y))), (335, iP 337 (fLst 13)), (337, iP 338 (fK (.inl 0))), (338, iP 340 (fIst 15)), (340, iP 342 (fIld 15)), (342, iP 345 (fK (.inl 252))), (345, iB 348 414 (b2 (fun x y => decide (y ≤ x)))), (348, iP 350 (fJld 13)), (350, iP 351 (fK (.inr (.inl 0)))), (351, iP 352 fLcmp), (352, iB 355 414 (b1 (fun x => decide (x = 0)))), (355, iP 356 (fAld 0)), (356, iRR 359 (gtR 67))] : List (Nat × AS)), SI X l 158 q.1 q.2 := List.forall_mem_cons.mpr ⟨
  s_iaload (show decode (cod 158) 289 = .ok (.iaload, 1) by decide +kernel), List.forall_mem_cons.mpr ⟨
  s_istore (k := 10) (show decode (cod 158) 290 = .ok (.istore 10, 2) by decide +kernel), List.forall_mem_cons.mpr ⟨
  s_aload_n (k := 0) (show decode (cod 158) 292 = .ok (.aload_n 0, 1) by decide +kernel), List.forall_mem_cons.mpr ⟨
  s_iload (k := 7) (show decode (cod 158) 293 = .ok (.iload 7, 2) by decide +kernel), List.forall_mem_cons.mpr ⟨
  s_invK rfl (rcv_virt (show decode (cod 158) 295 = .ok (.invokevirtual 169, 3) by decide +kernel) cld_158_160 ⟨11, _, _, rfl, by decide, rfl⟩ wd_733 wd_734 wd_735), List.forall_mem_cons.mpr ⟨
  s_iload (k := 10) (show decode (cod 158) 298 = .ok (.iload 10, 2) by decide +kernel), List.forall_mem_cons.mpr ⟨
  s_iload (k := 5) (show decode (cod 158) 300 = .ok (.iload 5, 2) by decide +kernel), List.forall_mem_cons.mpr ⟨
  s_imul (show decode (cod 158) 302 = .ok (.imul, 1) by decide +kernel), List.forall_mem_cons.mpr ⟨
  s_isub (show decode (cod 158) 303 = .ok (.isub, 1) by decide +kernel), List.forall_mem_cons.mpr ⟨
  s_istore (k := 11) (show decode (cod 158) 304 = .ok (.istore 11, 2) by decide +kernel), List.forall_mem_cons.mpr ⟨
  s_iconst (show decode (cod 158) 306 = .ok (.iconst 1, 1) by decide +kernel) rfl, List.forall_mem_cons.mpr ⟨
  s_istore (k := 12) (show decode (cod 158) 307 = .ok (.istore 12, 2) by decide +kernel), List.forall_mem_cons.mpr ⟨
  s_iload (k := 12) (show decode (cod 158) 309 = .ok (.iload 12, 2) by decide +kernel), List.forall_mem_cons.mpr ⟨
  s_iload (k := 10) (show decode (cod 158) 311 = .ok (.iload 10, 2) by decide +kernel), List.forall_mem_cons.mpr ⟨
  s_iconst (show decode (cod 158) 313 = .ok (.iconst 1, 1) by decide +kernel) rfl, List.forall_mem_cons.mpr ⟨
  s_iadd (show decode (cod 158) 314 = .ok (.iadd, 1) by decide +kernel), List.forall_mem_cons.mpr ⟨
  s_icmpgt (show decode (cod 158) 315 = .ok (.if_icmp .gt 105, 3) by decide +kernel) (by decide), List.forall_mem_cons.mpr ⟨
  s_lload (k := 8) (show decode (cod 158) 318 = .ok (.lload 8, 2) by decide +kernel), List.forall_mem_cons.mpr ⟨
  s_aload_n (k := 0) (show decode (cod 158) 320 = .ok (.aload_n 0, 1) by decide +kernel), List.forall_mem_cons.mpr ⟨
  s_getR (show decode (cod 158) 321 = .ok (.getfield 67, 3) by decide +kernel) wd_626 (Or.inl rfl) rfl, List.forall_mem_cons.mpr ⟨
  s_bipush (show decode (cod 158) 324 = .ok (.bipush 6, 2) by decide +kernel) rfl, List.forall_mem_cons.mpr ⟨
  s_iload (k := 10) (show decode (cod 158) 326 = .ok (.iload 10, 2) by decide +kernel), List.forall_mem_cons.mpr ⟨
  s_imul (show decode (cod 158) 328 = .ok (.imul, 1) by decide +kernel), List.forall_mem_cons.mpr ⟨
  s_iload (k := 12) (show decode (cod 158) 329 = .ok (.iload 12, 2) by decide +kernel), List.forall_mem_cons.mpr ⟨
  s_iadd (show decode (cod 158) 331 = .ok (.iadd, 1) by decide +kernel), List.forall_mem_cons.mpr ⟨
  s_iaload (show decode (cod 158) 332 = .ok (.iaload, 1) by decide +kernel), List.forall_mem_cons.mpr ⟨
  s_i2l (show decode (cod 158) 333 = .ok (.i2l, 1) by decide +kernel), List.forall_mem_cons.mpr ⟨
  s_lmul (show decode (cod 158) 334 = .ok (.lmul, 1) by decide +kernel), List.forall_mem_cons.mpr ⟨
  s_lstore (k := 13) (show decode (cod 158) 335 = .ok (.lstore 13, 2) by decide +kernel), List.forall_mem_cons.mpr ⟨
  s_iconst (show decode (cod 158) 337 = .ok (.iconst 0, 1) by decide +kernel) rfl, List.forall_mem_cons.mpr ⟨
  s_istore (k := 15) (show decode (cod 158) 338 = .ok (.istore 15, 2) by decide +kernel), List.forall_mem_cons.mpr ⟨
  s_iload (k := 15) (show decode (cod 158) 340 = .ok (.iload 15, 2) by decide +kernel), List.forall_mem_cons.mpr ⟨
  s_sipush (show decode (cod 158) 342 = .ok (.sipush 252, 3) by decide +kernel) rfl, List.forall_mem_cons.mpr ⟨
  s_icmpge (show decode (cod 158) 345 = .ok (.if_icmp .ge 69, 3) by decide +kernel) (by decide), List.forall_mem_cons.mpr ⟨
  s_lload (k := 13) (show decode (cod 158) 348 = .ok (.lload 13, 2) by decide +kernel), List.forall_mem_cons.mpr ⟨
  s_lconst (show decode (cod 158) 350 = .ok (.lconst 0, 1) by decide +kernel) rfl, List.forall_mem_cons.mpr ⟨
  s_lcmp (show decode (cod 158) 351 = .ok (.lcmp, 1) by decide +kernel), List.forall_mem_cons.mpr ⟨
  s_ifeq (show decode (cod 158) 352 = .ok (.ifCond .eq 62, 3) by decide +kernel) (by decide), List.forall_mem_cons.mpr ⟨
  s_aload_n (k := 0) (show decode (cod 158) 355 = .ok (.aload_n 0, 1) by decide +kernel), List.forall_mem_cons.mpr ⟨
  s_getR (show decode (cod 158) 356 = .ok (.getfield 47, 3) by decide +kernel) wd_619 (Or.inl rfl) rfl, fun _ h => by cases h⟩⟩⟩⟩⟩⟩⟩⟩⟩⟩⟩⟩⟩⟩⟩⟩⟩⟩⟩⟩⟩⟩⟩⟩⟩⟩⟩⟩⟩⟩⟩⟩⟩⟩⟩⟩⟩⟩⟩⟩
set_option maxRecDepth 100000 in
set_option maxHeartbeats 4000000 in
theorem si158_5 (X : CX) (l : Launch) : ∀ q ∈ ([(359, iP 362 (fK (.inl 252))), (362, iP 364 (fK (.inl 58))), (364, iP 366 (fIld 12)), (366, iP 367 (f2I (fun x y => x + y))), (367, iP 368 (f2I (fun x y => x * y))), (368, iP 370 (fIld 15)), (370, iP 371 (f2I (fun x y => x + y))), (371, iRJ 372 qAJ), (372, iP 374 (fLst 16)), (374, iP 376 (fJld 16)), (376, iP 377 (fK (.inr (.inl 0)))), (377, iP 378 fLcmp), (378, iB 381 408 (b1 (fun x => decide (x = 0)))), (381, iP 382 (fAld 0)), (382, iRR 385 (gtR 71)), (385, iP 386 (fAld 0)), (386, iRR 389 (gtR 62)), (389, iP 391 (fIld 11)), (391, iP 392 (fAld 0)), (392, iP 394 (fIld 15)), (394, iCK 397 12 160 4 2 1), (397, iP 398 (f2I (fun x y => x + y))), (398, iRI 399 qAI), (399, iP 400 fDup2), (400, iRJ 401 qAJ), (401, iP 403 (fJld 13)), (403, iP 405 (fJld 16)), (405, iP 406 (f2J (fun x y => x * y))), (406, iP 407 (f2J (fun x y => x + y))), (407, iW 408 wAJ), (408, iP 411 (fInc 15 1)), (411, iP 340 fGo), (414, iP 417 (fInc 12 1)), (417, iP 309 fGo), (420, iP 423 (fInc 7 1)), (423, iP 236 fGo), (426, iP 427 (fK (.inl 0))), (427, iP 429 (fIst 7)), (429, iP 431 (fIld 7)), (431, iP 434 (fK (.inl 252)))] : List (Nat × AS)), SI X l 158 q.1 q.2 := List.forall_mem_cons.mpr ⟨
  s_sipush (show decode (cod 158) 359 = .ok (.sipush 252, 3) by decide +kernel) rfl, List.forall_mem_cons.mpr ⟨
  s_bipush (show decode (cod 158) 362 = .ok (.bipush 58, 2) by decide +kernel) rfl, List.forall_mem_cons.mpr ⟨
  s_iload (k := 12) (show decode (cod 158) 364 = .ok (.iload 12, 2) by decide +kernel), List.forall_mem_cons.mpr ⟨
  s_iadd (show decode (cod 158) 366 = .ok (.iadd, 1) by decide +kernel), List.forall_mem_cons.mpr ⟨
  s_imul (show decode (cod 158) 367 = .ok (.imul, 1) by decide +kernel), List.forall_mem_cons.mpr ⟨
  s_iload (k := 15) (show decode (cod 158) 368 = .ok (.iload 15, 2) by decide +kernel), List.forall_mem_cons.mpr ⟨
  s_iadd (show decode (cod 158) 370 = .ok (.iadd, 1) by decide +kernel), List.forall_mem_cons.mpr ⟨
  s_laload (show decode (cod 158) 371 = .ok (.laload, 1) by decide +kernel), List.forall_mem_cons.mpr ⟨
  s_lstore (k := 16) (show decode (cod 158) 372 = .ok (.lstore 16, 2) by decide +kernel), List.forall_mem_cons.mpr ⟨
  s_lload (k := 16) (show decode (cod 158) 374 = .ok (.lload 16, 2) by decide +kernel), List.forall_mem_cons.mpr ⟨
  s_lconst (show decode (cod 158) 376 = .ok (.lconst 0, 1) by decide +kernel) rfl, List.forall_mem_cons.mpr ⟨
  s_lcmp (show decode (cod 158) 377 = .ok (.lcmp, 1) by decide +kernel), List.forall_mem_cons.mpr ⟨
  s_ifeq (show decode (cod 158) 378 = .ok (.ifCond .eq 30, 3) by decide +kernel) (by decide), List.forall_mem_cons.mpr ⟨
  s_aload_n (k := 0) (show decode (cod 158) 381 = .ok (.aload_n 0, 1) by decide +kernel), List.forall_mem_cons.mpr ⟨
  s_getR (show decode (cod 158) 382 = .ok (.getfield 61, 3) by decide +kernel) wd_624 (Or.inl rfl) rfl, List.forall_mem_cons.mpr ⟨
  s_aload_n (k := 0) (show decode (cod 158) 385 = .ok (.aload_n 0, 1) by decide +kernel), List.forall_mem_cons.mpr ⟨
  s_getR (show decode (cod 158) 386 = .ok (.getfield 38, 3) by decide +kernel) wd_616 (Or.inl rfl) rfl, List.forall_mem_cons.mpr ⟨
  s_iload (k := 11) (show decode (cod 158) 389 = .ok (.iload 11, 2) by decide +kernel), List.forall_mem_cons.mpr ⟨
  s_aload_n (k := 0) (show decode (cod 158) 391 = .ok (.aload_n 0, 1) by decide +kernel), List.forall_mem_cons.mpr ⟨
  s_iload (k := 15) (show decode (cod 158) 392 = .ok (.iload 15, 2) by decide +kernel), List.forall_mem_cons.mpr ⟨
  s_invK rfl (rcv_virt (show decode (cod 158) 394 = .ok (.invokevirtual 169, 3) by decide +kernel) cld_158_160 ⟨11, _, _, rfl, by decide, rfl⟩ wd_733 wd_734 wd_735), List.forall_mem_cons.mpr ⟨
  s_iadd (show decode (cod 158) 397 = .ok (.iadd, 1) by decide +kernel), List.forall_mem_cons.mpr ⟨
  s_iaload (show decode (cod 158) 398 = .ok (.iaload, 1) by decide +kernel), List.forall_mem_cons.mpr ⟨
  s_dup2 (show decode (cod 158) 399 = .ok (.dup2, 1) by decide +kernel), List.forall_mem_cons.mpr ⟨
  s_laload (show decode (cod 158) 400 = .ok (.laload, 1) by decide +kernel), List.forall_mem_cons.mpr ⟨
  s_lload (k := 13) (show decode (cod 158) 401 = .ok (.lload 13, 2) by decide +kernel), List.forall_mem_cons.mpr ⟨
  s_lload (k := 16) (show decode (cod 158) 403 = .ok (.lload 16, 2) by decide +kernel), List.forall_mem_cons.mpr ⟨
  s_lmul (show decode (cod 158) 405 = .ok (.lmul, 1) by decide +kernel), List.forall_mem_cons.mpr ⟨
  s_ladd (show decode (cod 158) 406 = .ok (.ladd, 1) by decide +kernel), List.forall_mem_cons.mpr ⟨
  s_lastore (show decode (cod 158) 407 = .ok (.lastore, 1) by decide +kernel), List.forall_mem_cons.mpr ⟨
  s_iinc (show decode (cod 158) 408 = .ok (.iinc 15 1, 3) by decide +kernel) rfl, List.forall_mem_cons.mpr ⟨
  s_goto (show decode (cod 158) 411 = .ok (.goto (-71), 3) by decide +kernel) (by decide), List.forall_mem_cons.mpr ⟨
  s_iinc (show decode (cod 158) 414 = .ok (.iinc 12 1, 3) by decide +kernel) rfl, List.forall_mem_cons.mpr ⟨
  s_goto (show decode (cod 158) 417 = .ok (.goto (-108), 3) by decide +kernel) (by decide), List.forall_mem_cons.mpr ⟨
  s_iinc (show decode (cod 158) 420 = .ok (.iinc 7 1, 3) by decide +kernel) rfl, List.forall_mem_cons.mpr ⟨
  s_goto (show decode (cod 158) 423 = .ok (.goto (-187), 3) by decide +kernel) (by decide), List.forall_mem_cons.mpr ⟨
  s_iconst (show decode (cod 158) 426 = .ok (.iconst 0, 1) by decide +kernel) rfl, List.forall_mem_cons.mpr ⟨
  s_istore (k := 7) (show decode (cod 158) 427 = .ok (.istore 7, 2) by decide +kernel), List.forall_mem_cons.mpr ⟨
  s_iload (k := 7) (show decode (cod 158) 429 = .ok (.iload 7, 2) by decide +kernel), List.forall_mem_cons.mpr ⟨
  s_sipush (show decode (cod 158) 431 = .ok (.sipush 252, 3) by decide +kernel) rfl, fun _ h => by cases h⟩⟩⟩⟩⟩⟩⟩⟩⟩⟩⟩⟩⟩⟩⟩⟩⟩⟩⟩⟩⟩⟩⟩⟩⟩⟩⟩⟩⟩⟩⟩⟩⟩⟩⟩⟩⟩⟩⟩⟩
set_option maxRecDepth 100000 in
set_option maxHeartbeats 4000000 in
theorem si158_6 (X : CX) (l : Launch) : ∀ q ∈ ([(434, iB 437 474 (b2 (fun x y => decide (y ≤ x)))), (437, iP 438 (fAld 0)), (438, iRR 441 (gtR 71)), (441, iP 443 (fIld 7)), (443, iRJ 444 qAJ), (444, iP 447 (fK (.inr (.inl 60)))), (447, iRJ 448 (q2J (fun x y => x - x / y * y))), (448, iP 449 (fK (.inr (.inl 0)))), (449, iP 450 fLcmp), (450, iB 453 455 (b1 (fun x => decide (x = 0)))), (453, iP 454 (fK (.inl 0))), (454, iRet rZ), (455, iP 456 (fAld 0)), (456, iRR 459 (gtR 71)), (459, iP 461 (fIld 7)), (461, iP 462 fDup2), (462, iRJ 463 qAJ), (463, iP 466 (fK (.inr (.inl 60)))), (466, iRJ 467 (q2J (fun x y => x / y))), (467, iW 468 wAJ), (468, iP 471 (fInc 7 1)), (471, iP 429 fGo), (474, iP 475 (fK (.inl 0))), (475, iP 477 (fIst 7)), (477, iP 479 (fIld 7)), (479, iP 482 (fK (.inl 252))), (482, iB 485 511 (b2 (fun x y => decide (y ≤ x)))), (485, iP 486 (fAld 0)), (486, iRR 489 (gtR 67)), (489, iP 492 (fK (.inl 252))), (492, iP 493 (fIld 1)), (493, iP 494 (f2I (fun x y => x * y))), (494, iP 496 (fIld 7)), (496, iP 497 (f2I (fun x y => x + y))), (497, iP 498 (fAld 0)), (498, iRR 501 (gtR 71)), (501, iP 503 (fIld 7)), (503, iRJ 504 qAJ), (504, iW 505 wAJ), (505, iP 508 (fInc 7 1))] : List (Nat × AS)), SI X l 158 q.1 q.2 := List.forall_mem_cons.mpr ⟨
  s_icmpge (show decode (cod 158) 434 = .ok (.if_icmp .ge 40, 3) by decide +kernel) (by decide), List.forall_mem_cons.mpr ⟨
  s_aload_n (k := 0) (show decode (cod 158) 437 = .ok (.aload_n 0, 1) by decide +kernel), List.forall_mem_cons.mpr ⟨
  s_getR (show decode (cod 158) 438 = .ok (.getfield 61, 3) by decide +kernel) wd_624 (Or.inl rfl) rfl, List.forall_mem_cons.mpr ⟨
  s_iload (k := 7) (show decode (cod 158) 441 = .ok (.iload 7, 2) by decide +kernel), List.forall_mem_cons.mpr ⟨
  s_laload (show decode (cod 158) 443 = .ok (.laload, 1) by decide +kernel), List.forall_mem_cons.mpr ⟨
  s_ldc2 (show decode (cod 158) 444 = .ok (.ldc2_w 186, 3) by decide +kernel) wd_744, List.forall_mem_cons.mpr ⟨
  s_lrem (show decode (cod 158) 447 = .ok (.lrem, 1) by decide +kernel), List.forall_mem_cons.mpr ⟨
  s_lconst (show decode (cod 158) 448 = .ok (.lconst 0, 1) by decide +kernel) rfl, List.forall_mem_cons.mpr ⟨
  s_lcmp (show decode (cod 158) 449 = .ok (.lcmp, 1) by decide +kernel), List.forall_mem_cons.mpr ⟨
  s_ifeq (show decode (cod 158) 450 = .ok (.ifCond .eq 5, 3) by decide +kernel) (by decide), List.forall_mem_cons.mpr ⟨
  s_iconst (show decode (cod 158) 453 = .ok (.iconst 0, 1) by decide +kernel) rfl, List.forall_mem_cons.mpr ⟨
  s_ret (show decode (cod 158) 454 = .ok (.ireturn, 1) by decide +kernel) rZ_ok (fun _ => rZ_b), List.forall_mem_cons.mpr ⟨
  s_aload_n (k := 0) (show decode (cod 158) 455 = .ok (.aload_n 0, 1) by decide +kernel), List.forall_mem_cons.mpr ⟨
  s_getR (show decode (cod 158) 456 = .ok (.getfield 61, 3) by decide +kernel) wd_624 (Or.inl rfl) rfl, List.forall_mem_cons.mpr ⟨
  s_iload (k := 7) (show decode (cod 158) 459 = .ok (.iload 7, 2) by decide +kernel), List.forall_mem_cons.mpr ⟨
  s_dup2 (show decode (cod 158) 461 = .ok (.dup2, 1) by decide +kernel), List.forall_mem_cons.mpr ⟨
  s_laload (show decode (cod 158) 462 = .ok (.laload, 1) by decide +kernel), List.forall_mem_cons.mpr ⟨
  s_ldc2 (show decode (cod 158) 463 = .ok (.ldc2_w 186, 3) by decide +kernel) wd_744, List.forall_mem_cons.mpr ⟨
  s_ldiv (show decode (cod 158) 466 = .ok (.ldiv, 1) by decide +kernel), List.forall_mem_cons.mpr ⟨
  s_lastore (show decode (cod 158) 467 = .ok (.lastore, 1) by decide +kernel), List.forall_mem_cons.mpr ⟨
  s_iinc (show decode (cod 158) 468 = .ok (.iinc 7 1, 3) by decide +kernel) rfl, List.forall_mem_cons.mpr ⟨
  s_goto (show decode (cod 158) 471 = .ok (.goto (-42), 3) by decide +kernel) (by decide), List.forall_mem_cons.mpr ⟨
  s_iconst (show decode (cod 158) 474 = .ok (.iconst 0, 1) by decide +kernel) rfl, List.forall_mem_cons.mpr ⟨
  s_istore (k := 7) (show decode (cod 158) 475 = .ok (.istore 7, 2) by decide +kernel), List.forall_mem_cons.mpr ⟨
  s_iload (k := 7) (show decode (cod 158) 477 = .ok (.iload 7, 2) by decide +kernel), List.forall_mem_cons.mpr ⟨
  s_sipush (show decode (cod 158) 479 = .ok (.sipush 252, 3) by decide +kernel) rfl, List.forall_mem_cons.mpr ⟨
  s_icmpge (show decode (cod 158) 482 = .ok (.if_icmp .ge 29, 3) by decide +kernel) (by decide), List.forall_mem_cons.mpr ⟨
  s_aload_n (k := 0) (show decode (cod 158) 485 = .ok (.aload_n 0, 1) by decide +kernel), List.forall_mem_cons.mpr ⟨
  s_getR (show decode (cod 158) 486 = .ok (.getfield 47, 3) by decide +kernel) wd_619 (Or.inl rfl) rfl, List.forall_mem_cons.mpr ⟨
  s_sipush (show decode (cod 158) 489 = .ok (.sipush 252, 3) by decide +kernel) rfl, List.forall_mem_cons.mpr ⟨
  s_iload_n (k := 1) (show decode (cod 158) 492 = .ok (.iload_n 1, 1) by decide +kernel), List.forall_mem_cons.mpr ⟨
  s_imul (show decode (cod 158) 493 = .ok (.imul, 1) by decide +kernel), List.forall_mem_cons.mpr ⟨
  s_iload (k := 7) (show decode (cod 158) 494 = .ok (.iload 7, 2) by decide +kernel), List.forall_mem_cons.mpr ⟨
  s_iadd (show decode (cod 158) 496 = .ok (.iadd, 1) by decide +kernel), List.forall_mem_cons.mpr ⟨
  s_aload_n (k := 0) (show decode (cod 158) 497 = .ok (.aload_n 0, 1) by decide +kernel), List.forall_mem_cons.mpr ⟨
  s_getR (show decode (cod 158) 498 = .ok (.getfield 61, 3) by decide +kernel) wd_624 (Or.inl rfl) rfl, List.forall_mem_cons.mpr ⟨
  s_iload (k := 7) (show decode (cod 158) 501 = .ok (.iload 7, 2) by decide +kernel), List.forall_mem_cons.mpr ⟨
  s_laload (show decode (cod 158) 503 = .ok (.laload, 1) by decide +kernel), List.forall_mem_cons.mpr ⟨
  s_lastore (show decode (cod 158) 504 = .ok (.lastore, 1) by decide +kernel), List.forall_mem_cons.mpr ⟨
  s_iinc (show decode (cod 158) 505 = .ok (.iinc 7 1, 3) by decide +kernel) rfl, fun _ h => by cases h⟩⟩⟩⟩⟩⟩⟩⟩⟩⟩⟩⟩⟩⟩⟩⟩⟩⟩⟩⟩⟩⟩⟩⟩⟩⟩⟩⟩⟩⟩⟩⟩⟩⟩⟩⟩⟩⟩⟩⟩
set_option maxRecDepth 100000 in
set_option maxHeartbeats 4000000 in
theorem si158_7 (X : CX) (l : Launch) : ∀ q ∈ ([(508, iP 477 fGo), (511, iP 512 (fK (.inl 1))), (512, iRet rZ)] : List (Nat × AS)), SI X l 158 q.1 q.2 := List.forall_mem_cons.mpr ⟨
  s_goto (show decode (cod 158) 508 = .ok (.goto (-31), 3) by decide +kernel) (by decide), List.forall_mem_cons.mpr ⟨
  s_iconst (show decode (cod 158) 511 = .ok (.iconst 1, 1) by decide +kernel) rfl, List.forall_mem_cons.mpr ⟨
  s_ret (show decode (cod 158) 512 = .ok (.ireturn, 1) by decide +kernel) rZ_ok (fun _ => rZ_b), fun _ h => by cases h⟩⟩⟩
set_option maxRecDepth 100000 in
theorem si158 (X : CX) (l : Launch) : ∀ q ∈ pt158, SI X l 158 q.1 q.2 := (List.forall_mem_append (l₁ := _) (l₂ := _)).mpr ⟨si158_0 X l, (List.forall_mem_append (l₁ := _) (l₂ := _)).mpr ⟨si158_1 X l, (List.forall_mem_append (l₁ := _) (l₂ := _)).mpr ⟨si158_2 X l, (List.forall_mem_append (l₁ := _) (l₂ := _)).mpr ⟨si158_3 X l, (List.forall_mem_append (l₁ := _) (l₂ := _)).mpr ⟨si158_4 X l, (List.forall_mem_append (l₁ := _) (l₂ := _)).mpr ⟨si158_5 X l, (List.forall_mem_append (l₁ := _) (l₂ := _)).mpr ⟨si158_6 X l, si158_7 X l⟩⟩⟩⟩⟩⟩⟩
set_option maxRecDepth 100000 in
set_option maxHeartbeats 4000000 in
theorem si159_0 (X : CX) (l : Launch) : ∀ q ∈ ([(0, iP 1 (fK (.inl 1))), (1, iP 2 (fIst 1)), (2, iP 3 (fK (.inl 0))), (3, iP 4 (fIst 2)), (4, iP 5 (fIld 2)), (5, iP 6 (fIld 0)), (6, iB 9 20 (b2 (fun x y => decide (y ≤ x)))), (9, iP 10 (fIld 1)), (10, iP 12 (fK (.inl 6))), (12, iP 13 (f2I (fun x y => x * y))), (13, iP 14 (fIst 1)), (14, iP 17 (fInc 2 1)), (17, iP 4 fGo), (20, iP 21 (fIld 1)), (21, iRet rI)] : List (Nat × AS)), SI X l 159 q.1 q.2 := List.forall_mem_cons.mpr ⟨
  s_iconst (show decode (cod 159) 0 = .ok (.iconst 1, 1) by decide +kernel) rfl, List.forall_mem_cons.mpr ⟨
  s_istore_n (k := 1) (show decode (cod 159) 1 = .ok (.istore_n 1, 1) by decide +kernel), List.forall_mem_cons.mpr ⟨
  s_iconst (show decode (cod 159) 2 = .ok (.iconst 0, 1) by decide +kernel) rfl, List.forall_mem_cons.mpr ⟨
  s_istore_n (k := 2) (show decode (cod 159) 3 = .ok (.istore_n 2, 1) by decide +kernel), List.forall_mem_cons.mpr ⟨
  s_iload_n (k := 2) (show decode (cod 159) 4 = .ok (.iload_n 2, 1) by decide +kernel), List.forall_mem_cons.mpr ⟨
  s_iload_n (k := 0) (show decode (cod 159) 5 = .ok (.iload_n 0, 1) by decide +kernel), List.forall_mem_cons.mpr ⟨
  s_icmpge (show decode (cod 159) 6 = .ok (.if_icmp .ge 14, 3) by decide +kernel) (by decide), List.forall_mem_cons.mpr ⟨
  s_iload_n (k := 1) (show decode (cod 159) 9 = .ok (.iload_n 1, 1) by decide +kernel), List.forall_mem_cons.mpr ⟨
  s_bipush (show decode (cod 159) 10 = .ok (.bipush 6, 2) by decide +kernel) rfl, List.forall_mem_cons.mpr ⟨
  s_imul (show decode (cod 159) 12 = .ok (.imul, 1) by decide +kernel), List.forall_mem_cons.mpr ⟨
  s_istore_n (k := 1) (show decode (cod 159) 13 = .ok (.istore_n 1, 1) by decide +kernel), List.forall_mem_cons.mpr ⟨
  s_iinc (show decode (cod 159) 14 = .ok (.iinc 2 1, 3) by decide +kernel) rfl, List.forall_mem_cons.mpr ⟨
  s_goto (show decode (cod 159) 17 = .ok (.goto (-13), 3) by decide +kernel) (by decide), List.forall_mem_cons.mpr ⟨
  s_iload_n (k := 1) (show decode (cod 159) 20 = .ok (.iload_n 1, 1) by decide +kernel), List.forall_mem_cons.mpr ⟨
  s_ret (show decode (cod 159) 21 = .ok (.ireturn, 1) by decide +kernel) rI_ok (fun h => by cases h), fun _ h => by cases h⟩⟩⟩⟩⟩⟩⟩⟩⟩⟩⟩⟩⟩⟩⟩
set_option maxRecDepth 100000 in
theorem si159 (X : CX) (l : Launch) : ∀ q ∈ pt159, SI X l 159 q.1 q.2 :=  si159_0 X l
set_option maxRecDepth 100000 in
set_option maxHeartbeats 4000000 in
theorem si160_0 (X : CX) (l : Launch) : ∀ q ∈ ([(0, iP 1 (fK (.inl 0))), (1, iP 2 (fIst 2)), (2, iP 3 (fK (.inl 4))), (3, iP 4 (fIst 3)), (4, iP 5 (fIld 3)), (5, iB 8 30 (b1 (fun x => decide (x < 0)))), (8, iP 10 (fK (.inl 6))), (10, iP 11 (fIld 2)), (11, iP 12 (f2I (fun x y => x * y))), (12, iP 13 (fAld 0)), (13, iRR 16 (gtR 61)), (16, iP 17 (fK (.inl 5))), (17, iP 18 (fIld 1)), (18, iP 19 (f2I (fun x y => x * y))), (19, iP 20 (fIld 3)), (20, iP 21 (f2I (fun x y => x + y))), (21, iRI 22 qAI), (22, iP 23 (f2I (fun x y => x + y))), (23, iP 24 (fIst 2)), (24, iP 27 (fInc 3 (-1))), (27, iP 4 fGo), (30, iP 31 (fIld 2)), (31, iRet rI)] : List (Nat × AS)), SI X l 160 q.1 q.2 := List.forall_mem_cons.mpr ⟨
  s_iconst (show decode (cod 160) 0 = .ok (.iconst 0, 1) by decide +kernel) rfl, List.forall_mem_cons.mpr ⟨
  s_istore_n (k := 2) (show decode (cod 160) 1 = .ok (.istore_n 2, 1) by decide +kernel), List.forall_mem_cons.mpr ⟨
  s_iconst (show decode (cod 160) 2 = .ok (.iconst 4, 1) by decide +kernel) rfl, List.forall_mem_cons.mpr ⟨
  s_istore_n (k := 3) (show decode (cod 160) 3 = .ok (.istore_n 3, 1) by decide +kernel), List.forall_mem_cons.mpr ⟨
  s_iload_n (k := 3) (show decode (cod 160) 4 = .ok (.iload_n 3, 1) by decide +kernel), List.forall_mem_cons.mpr ⟨
  s_iflt (show decode (cod 160) 5 = .ok (.ifCond .lt 25, 3) by decide +kernel) (by decide), List.forall_mem_cons.mpr ⟨
  s_bipush (show decode (cod 160) 8 = .ok (.bipush 6, 2) by decide +kernel) rfl, List.forall_mem_cons.mpr ⟨
  s_iload_n (k := 2) (show decode (cod 160) 10 = .ok (.iload_n 2, 1) by decide +kernel), List.forall_mem_cons.mpr ⟨
  s_imul (show decode (cod 160) 11 = .ok (.imul, 1) by decide +kernel), List.forall_mem_cons.mpr ⟨
  s_aload_n (k := 0) (show decode (cod 160) 12 = .ok (.aload_n 0, 1) by decide +kernel), List.forall_mem_cons.mpr ⟨
  s_getR (show decode (cod 160) 13 = .ok (.getfield 35, 3) by decide +kernel) wd_615 (Or.inl rfl) rfl, List.forall_mem_cons.mpr ⟨
  s_iconst (show decode (cod 160) 16 = .ok (.iconst 5, 1) by decide +kernel) rfl, List.forall_mem_cons.mpr ⟨
  s_iload_n (k := 1) (show decode (cod 160) 17 = .ok (.iload_n 1, 1) by decide +kernel), List.forall_mem_cons.mpr ⟨
  s_imul (show decode (cod 160) 18 = .ok (.imul, 1) by decide +kernel), List.forall_mem_cons.mpr ⟨
  s_iload_n (k := 3) (show decode (cod 160) 19 = .ok (.iload_n 3, 1) by decide +kernel), List.forall_mem_cons.mpr ⟨
  s_iadd (show decode (cod 160) 20 = .ok (.iadd, 1) by decide +kernel), List.forall_mem_cons.mpr ⟨
  s_iaload (show decode (cod 160) 21 = .ok (.iaload, 1) by decide +kernel), List.forall_mem_cons.mpr ⟨
  s_iadd (show decode (cod 160) 22 = .ok (.iadd, 1) by decide +kernel), List.forall_mem_cons.mpr ⟨
  s_istore_n (k := 2) (show decode (cod 160) 23 = .ok (.istore_n 2, 1) by decide +kernel), List.forall_mem_cons.mpr ⟨
  s_iinc (show decode (cod 160) 24 = .ok (.iinc 3 (-1), 3) by decide +kernel) rfl, List.forall_mem_cons.mpr ⟨
  s_goto (show decode (cod 160) 27 = .ok (.goto (-23), 3) by decide +kernel) (by decide), List.forall_mem_cons.mpr ⟨
  s_iload_n (k := 2) (show decode (cod 160) 30 = .ok (.iload_n 2, 1) by decide +kernel), List.forall_mem_cons.mpr ⟨
  s_ret (show decode (cod 160) 31 = .ok (.ireturn, 1) by decide +kernel) rI_ok (fun h => by cases h), fun _ h => by cases h⟩⟩⟩⟩⟩⟩⟩⟩⟩⟩⟩⟩⟩⟩⟩⟩⟩⟩⟩⟩⟩⟩⟩
set_option maxRecDepth 100000 in
theorem si160 (X : CX) (l : Launch) : ∀ q ∈ pt160, SI X l 160 q.1 q.2 :=  si160_0 X l
set_option maxRecDepth 100000 in
set_option maxHeartbeats 4000000 in
theorem si161_0 (X : CX) (l : Launch) : ∀ q ∈ ([(0, iP 1 (fAld 0)), (1, iP 2 (fIld 1)), (2, iCK 5 12 155 3 2 0), (5, iP 6 (fAld 0)), (6, iRR 9 (gtR 67)), (9, iP 12 (fK (.inl 252))), (12, iP 13 (fIld 1)), (13, iP 14 (f2I (fun x y => x * y))), (14, iP 15 (fK (.inr (.inl 1)))), (15, iW 16 wAJ), (16, iP 17 (fK (.inl 1))), (17, iP 19 (fIst 5)), (19, iP 20 (fK (.inl 1))), (20, iP 22 (fIst 6)), (22, iP 24 (fIld 6)), (24, iP 26 (fK (.inl 6))), (26, iB 29 233 (b2 (fun x y => decide (y ≤ x)))), (29, iP 30 (fAld 0)), (30, iP 31 (fIld 1)), (31, iP 33 (fIld 6)), (33, iP 34 (f2I (fun x y => x + y))), (34, iCK 37 12 155 3 2 0), (37, iP 38 (fK (.inl 0))), (38, iP 40 (fIst 7)), (40, iP 42 (fIld 7)), (42, iP 45 (fK (.inl 252))), (45, iB 48 227 (b2 (fun x y => decide (y ≤ x)))), (48, iP 49 (fAld 0)), (49, iRR 52 (gtR 67)), (52, iP 55 (fK (.inl 252))), (55, iP 56 (fIld 1)), (56, iP 58 (fIld 6)), (58, iP 59 (f2I (fun x y => x + y))), (59, iP 60 (fK (.inl 1))), (60, iP 61 (f2I (fun x y => x - y))), (61, iP 62 (f2I (fun x y => x * y))), (62, iP 64 (fIld 7)), (64, iP 65 (f2I (fun x y => x + y))), (65, iRJ 66 qAJ), (66, iP 68 (fLst 8))] : List (Nat × AS)), SI X l 161 q.1 q.2 := List.forall_mem_cons.mpr ⟨
  s_aload_n (k := 0) (show decode (cod 161) 0 = .ok (.aload_n 0, 1) by decide +kernel), List.forall_mem_cons.mpr ⟨
  s_iload_n (k := 1) (show decode (cod 161) 1 = .ok (.iload_n 1, 1) by decide +kernel), List.forall_mem_cons.mpr ⟨
  s_invK rfl (rcv_virt (show decode (cod 161) 2 = .ok (.invokevirtual 166, 3) by decide +kernel) cld_161_155 ⟨11, _, _, rfl, by decide, rfl⟩ wd_707 wd_708 wd_709), List.forall_mem_cons.mpr ⟨
  s_aload_n (k := 0) (show decode (cod 161) 5 = .ok (.aload_n 0, 1) by decide +kernel), List.forall_mem_cons.mpr ⟨
  s_getR (show decode (cod 161) 6 = .ok (.getfield 47, 3) by decide +kernel) wd_619 (Or.inl rfl) rfl, List.forall_mem_cons.mpr ⟨
  s_sipush (show decode (cod 161) 9 = .ok (.sipush 252, 3) by decide +kernel) rfl, List.forall_mem_cons.mpr ⟨
  s_iload_n (k := 1) (show decode (cod 161) 12 = .ok (.iload_n 1, 1) by decide +kernel), List.forall_mem_cons.mpr ⟨
  s_imul (show decode (cod 161) 13 = .ok (.imul, 1) by decide +kernel), List.forall_mem_cons.mpr ⟨
  s_lconst (show decode (cod 161) 14 = .ok (.lconst 1, 1) by decide +kernel) rfl, List.forall_mem_cons.mpr ⟨
  s_lastore (show decode (cod 161) 15 = .ok (.lastore, 1) by decide +kernel), List.forall_mem_cons.mpr ⟨
  s_iconst (show decode (cod 161) 16 = .ok (.iconst 1, 1) by decide +kernel) rfl, List.forall_mem_cons.mpr ⟨
  s_istore (k := 5) (show decode (cod 161) 17 = .ok (.istore 5, 2) by decide +kernel), List.forall_mem_cons.mpr ⟨
  s_iconst (show decode (cod 161) 19 = .ok (.iconst 1, 1) by decide +kernel) rfl, List.forall_mem_cons.mpr ⟨
  s_istore (k := 6) (show decode (cod 161) 20 = .ok (.istore 6, 2) by decide +kernel), List.forall_mem_cons.mpr ⟨
  s_iload (k := 6) (show decode (cod 161) 22 = .ok (.iload 6, 2) by decide +kernel), List.forall_mem_cons.mpr ⟨
  s_bipush (show decode (cod 161) 24 = .ok (.bipush 6, 2) by decide +kernel) rfl, List.forall_mem_cons.mpr ⟨
  s_icmpge (show decode (cod 161) 26 = .ok (.if_icmp .ge 207, 3) by decide +kernel) (by decide), List.forall_mem_cons.mpr ⟨
  s_aload_n (k := 0) (show decode (cod 161) 29 = .ok (.aload_n 0, 1) by decide +kernel), List.forall_mem_cons.mpr ⟨
  s_iload_n (k := 1) (show decode (cod 161) 30 = .ok (.iload_n 1, 1) by decide +kernel), List.forall_mem_cons.mpr ⟨
  s_iload (k := 6) (show decode (cod 161) 31 = .ok (.iload 6, 2) by decide +kernel), List.forall_mem_cons.mpr ⟨
  s_iadd (show decode (cod 161) 33 = .ok (.iadd, 1) by decide +kernel), List.forall_mem_cons.mpr ⟨
  s_invK rfl (rcv_virt (show decode (cod 161) 34 = .ok (.invokevirtual 166, 3) by decide +kernel) cld_161_155 ⟨11, _, _, rfl, by decide, rfl⟩ wd_707 wd_708 wd_709), List.forall_mem_cons.mpr ⟨
  s_iconst (show decode (cod 161) 37 = .ok (.iconst 0, 1) by decide +kernel) rfl, List.forall_mem_cons.mpr ⟨
  s_istore (k := 7) (show decode (cod 161) 38 = .ok (.istore 7, 2) by decide +kernel), List.forall_mem_cons.mpr ⟨
  s_iload (k := 7) (show decode (cod 161) 40 = .ok (.iload 7, 2) by decide +kernel), List.forall_mem_cons.mpr ⟨
  s_sipush (show decode (cod 161) 42 = .ok (.sipush 252, 3) by decide +kernel) rfl, List.forall_mem_cons.mpr ⟨
  s_icmpge (show decode (cod 161) 45 = .ok (.if_icmp .ge 182, 3) by decide +kernel) (by decide), List.forall_mem_cons.mpr ⟨
  s_aload_n (k := 0) (show decode (cod 161) 48 = .ok (.aload_n 0, 1) by decide +kernel), List.forall_mem_cons.mpr ⟨
  s_getR (show decode (cod 161) 49 = .ok (.getfield 47, 3) by decide +kernel) wd_619 (Or.inl rfl) rfl, List.forall_mem_cons.mpr ⟨
  s_sipush (show decode (cod 161) 52 = .ok (.sipush 252, 3) by decide +kernel) rfl, List.forall_mem_cons.mpr ⟨
  s_iload_n (k := 1) (show decode (cod 161) 55 = .ok (.iload_n 1, 1) by decide +kernel), List.forall_mem_cons.mpr ⟨
  s_iload (k := 6) (show decode (cod 161) 56 = .ok (.iload 6, 2) by decide +kernel), List.forall_mem_cons.mpr ⟨
  s_iadd (show decode (cod 161) 58 = .ok (.iadd, 1) by decide +kernel), List.forall_mem_cons.mpr ⟨
  s_iconst (show decode (cod 161) 59 = .ok (.iconst 1, 1) by decide +kernel) rfl, List.forall_mem_cons.mpr ⟨
  s_isub (show decode (cod 161) 60 = .ok (.isub, 1) by decide +kernel), List.forall_mem_cons.mpr ⟨
  s_imul (show decode (cod 161) 61 = .ok (.imul, 1) by decide +kernel), List.forall_mem_cons.mpr ⟨
  s_iload (k := 7) (show decode (cod 161) 62 = .ok (.iload 7, 2) by decide +kernel), List.forall_mem_cons.mpr ⟨
  s_iadd (show decode (cod 161) 64 = .ok (.iadd, 1) by decide +kernel), List.forall_mem_cons.mpr ⟨
  s_laload (show decode (cod 161) 65 = .ok (.laload, 1) by decide +kernel), List.forall_mem_cons.mpr ⟨
  s_lstore (k := 8) (show decode (cod 161) 66 = .ok (.lstore 8, 2) by decide +kernel), fun _ h => by cases h⟩⟩⟩⟩⟩⟩⟩⟩⟩⟩⟩⟩⟩⟩⟩⟩⟩⟩⟩⟩⟩⟩⟩⟩⟩⟩⟩⟩⟩⟩⟩⟩⟩⟩⟩⟩⟩⟩⟩⟩
set_option maxRecDepth 100000 in
set_option maxHeartbeats 4000000 in
theorem si161_1 (X : CX) (l : Launch) : ∀ q ∈ ([(68, iP 70 (fJld 8)), (70, iP 71 (fK (.inr (.inl 0)))), (71, iP 72 fLcmp), (72, iB 75 221 (b1 (fun x => decide (x = 0)))), (75, iP 76 (fAld 0)), (76, iP 78 (fIld 7)), (78, iCK 81 12 160 4 2 1), (81, iP 83 (fIst 10)), (83, iP 84 (fK (.inl 1))), (84, iP 86 (fIst 5)), (86, iP 87 (fAld 0)), (87, iRR 90 (gtR 67)), (90, iP 93 (fK (.inl 252))), (93, iP 94 (fIld 1)), (94, iP 96 (fIld 6)), (96, iP 97 (f2I (fun x y => x + y))), (97, iP 98 (f2I (fun x y => x * y))), (98, iP 100 (fIld 7)), (100, iP 101 (f2I (fun x y => x + y))), (101, iP 102 fDup2), (102, iRJ 103 qAJ), (103, iP 105 (fJld 8)), (105, iP 106 (fAld 0)), (106, iRR 109 (gtR 55)), (109, iP 111 (fK (.inl 12))), (111, iP 112 (fIld 2)), (112, iP 113 (f2I (fun x y => x * y))), (113, iP 115 (fK (.inl 6))), (115, iP 116 (fIld 3)), (116, iP 117 (f2I (fun x y => x * y))), (117, iP 118 (f2I (fun x y => x + y))), (118, iRI 119 qAI), (119, iP 120 fI2l), (120, iP 121 (f2J (fun x y => x * y))), (121, iP 122 (f2J (fun x y => x + y))), (122, iW 123 wAJ), (123, iP 124 (fK (.inl 0))), (124, iP 126 (fIst 11)), (126, iP 128 (fIld 11)), (128, iP 129 (fK (.inl 2)))] : List (Nat × AS)), SI X l 161 q.1 q.2 := List.forall_mem_cons.mpr ⟨
  s_lload (k := 8) (show decode (cod 161) 68 = .ok (.lload 8, 2) by decide +kernel), List.forall_mem_cons.mpr ⟨
  s_lconst (show decode (cod 161) 70 = .ok (.lconst 0, 1) by decide +kernel) rfl, List.forall_mem_cons.mpr ⟨
  s_lcmp (show decode (cod 161) 71 = .ok (.lcmp, 1) by decide +kernel), List.forall_mem_cons.mpr ⟨
  s_ifeq (show decode (cod 161) 72 = .ok (.ifCond .eq 149, 3) by decide +kernel) (by decide), List.forall_mem_cons.mpr ⟨
  s_aload_n (k := 0) (show decode (cod 161) 75 = .ok (.aload_n 0, 1) by decide +kernel), List.forall_mem_cons.mpr ⟨
  s_iload (k := 7) (show decode (cod 161) 76 = .ok (.iload 7, 2) by decide +kernel), List.forall_mem_cons.mpr ⟨
  s_invK rfl (rcv_virt (show decode (cod 161) 78 = .ok (.invokevirtual 169, 3) by decide +kernel) cld_161_160 ⟨11, _, _, rfl, by decide, rfl⟩ wd_733 wd_734 wd_735), List.forall_mem_cons.mpr ⟨
  s_istore (k := 10) (show decode (cod 161) 81 = .ok (.istore 10, 2) by decide +kernel), List.forall_mem_cons.mpr ⟨
  s_iconst (show decode (cod 161) 83 = .ok (.iconst 1, 1) by decide +kernel) rfl, List.forall_mem_cons.mpr ⟨
  s_istore (k := 5) (show decode (cod 161) 84 = .ok (.istore 5, 2) by decide +kernel), List.forall_mem_cons.mpr ⟨
  s_aload_n (k := 0) (show decode (cod 161) 86 = .ok (.aload_n 0, 1) by decide +kernel), List.forall_mem_cons.mpr ⟨
  s_getR (show decode (cod 161) 87 = .ok (.getfield 47, 3) by decide +kernel) wd_619 (Or.inl rfl) rfl, List.forall_mem_cons.mpr ⟨
  s_sipush (show decode (cod 161) 90 = .ok (.sipush 252, 3) by decide +kernel) rfl, List.forall_mem_cons.mpr ⟨
  s_iload_n (k := 1) (show decode (cod 161) 93 = .ok (.iload_n 1, 1) by decide +kernel), List.forall_mem_cons.mpr ⟨
  s_iload (k := 6) (show decode (cod 161) 94 = .ok (.iload 6, 2) by decide +kernel), List.forall_mem_cons.mpr ⟨
  s_iadd (show decode (cod 161) 96 = .ok (.iadd, 1) by decide +kernel), List.forall_mem_cons.mpr ⟨
  s_imul (show decode (cod 161) 97 = .ok (.imul, 1) by decide +kernel), List.forall_mem_cons.mpr ⟨
  s_iload (k := 7) (show decode (cod 161) 98 = .ok (.iload 7, 2) by decide +kernel), List.forall_mem_cons.mpr ⟨
  s_iadd (show decode (cod 161) 100 = .ok (.iadd, 1) by decide +kernel), List.forall_mem_cons.mpr ⟨
  s_dup2 (show decode (cod 161) 101 = .ok (.dup2, 1) by decide +kernel), List.forall_mem_cons.mpr ⟨
  s_laload (show decode (cod 161) 102 = .ok (.laload, 1) by decide +kernel), List.forall_mem_cons.mpr ⟨
  s_lload (k := 8) (show decode (cod 161) 103 = .ok (.lload 8, 2) by decide +kernel), List.forall_mem_cons.mpr ⟨
  s_aload_n (k := 0) (show decode (cod 161) 105 = .ok (.aload_n 0, 1) by decide +kernel), List.forall_mem_cons.mpr ⟨
  s_getR (show decode (cod 161) 106 = .ok (.getfield 22, 3) by decide +kernel) wd_611 (Or.inl rfl) rfl, List.forall_mem_cons.mpr ⟨
  s_bipush (show decode (cod 161) 109 = .ok (.bipush 12, 2) by decide +kernel) rfl, List.forall_mem_cons.mpr ⟨
  s_iload_n (k := 2) (show decode (cod 161) 111 = .ok (.iload_n 2, 1) by decide +kernel), List.forall_mem_cons.mpr ⟨
  s_imul (show decode (cod 161) 112 = .ok (.imul, 1) by decide +kernel), List.forall_mem_cons.mpr ⟨
  s_bipush (show decode (cod 161) 113 = .ok (.bipush 6, 2) by decide +kernel) rfl, List.forall_mem_cons.mpr ⟨
  s_iload_n (k := 3) (show decode (cod 161) 115 = .ok (.iload_n 3, 1) by decide +kernel), List.forall_mem_cons.mpr ⟨
  s_imul (show decode (cod 161) 116 = .ok (.imul, 1) by decide +kernel), List.forall_mem_cons.mpr ⟨
  s_iadd (show decode (cod 161) 117 = .ok (.iadd, 1) by decide +kernel), List.forall_mem_cons.mpr ⟨
  s_iaload (show decode (cod 161) 118 = .ok (.iaload, 1) by decide +kernel), List.forall_mem_cons.mpr ⟨
  s_i2l (show decode (cod 161) 119 = .ok (.i2l, 1) by decide +kernel), List.forall_mem_cons.mpr ⟨
  s_lmul (show decode (cod 161) 120 = .ok (.lmul, 1) by decide +kernel), List.forall_mem_cons.mpr ⟨
  s_ladd (show decode (cod 161) 121 = .ok (.ladd, 1) by decide +kernel), List.forall_mem_cons.mpr ⟨
  s_lastore (show decode (cod 161) 122 = .ok (.lastore, 1) by decide +kernel), List.forall_mem_cons.mpr ⟨
  s_iconst (show decode (cod 161) 123 = .ok (.iconst 0, 1) by decide +kernel) rfl, List.forall_mem_cons.mpr ⟨
  s_istore (k := 11) (show decode (cod 161) 124 = .ok (.istore 11, 2) by decide +kernel), List.forall_mem_cons.mpr ⟨
  s_iload (k := 11) (show decode (cod 161) 126 = .ok (.iload 11, 2) by decide +kernel), List.forall_mem_cons.mpr ⟨
  s_iconst (show decode (cod 161) 128 = .ok (.iconst 2, 1) by decide +kernel) rfl, fun _ h => by cases h⟩⟩⟩⟩⟩⟩⟩⟩⟩⟩⟩⟩⟩⟩⟩⟩⟩⟩⟩⟩⟩⟩⟩⟩⟩⟩⟩⟩⟩⟩⟩⟩⟩⟩⟩⟩⟩⟩⟩⟩
set_option maxRecDepth 100000 in
set_option maxHeartbeats 4000000 in
theorem si161_2 (X : CX) (l : Launch) : ∀ q ∈ ([(129, iP 131 (fIld 4)), (131, iP 132 (f2I (fun x y => x + y))), (132, iB 135 221 (b2 (fun x y => decide (y ≤ x)))), (135, iP 136 (fAld 0)), (136, iP 138 (fIld 7)), (138, iCK 141 12 162 4 2 1), (141, iP 142 (fK (.inl 5))), (142, iB 145 158 (b2 (fun x y => decide (y ≤ x)))), (145, iP 146 (fAld 0)), (146, iRR 149 (gtR 62)), (149, iP 151 (fIld 10)), (151, iP 153 (fIld 5)), (153, iP 154 (f2I (fun x y => x + y))), (154, iRI 155 qAI), (155, iP 159 fGo), (158, iP 159 (fK (.inl (-1)))), (159, iP 161 (fIst 12)), (161, iP 163 (fIld 12)), (163, iB 166 208 (b1 (fun x => decide (x < 0)))), (166, iP 167 (fAld 0)), (167, iRR 170 (gtR 67)), (170, iP 173 (fK (.inl 252))), (173, iP 174 (fIld 1)), (174, iP 176 (fIld 6)), (176, iP 177 (f2I (fun x y => x + y))), (177, iP 178 (f2I (fun x y => x * y))), (178, iP 180 (fIld 12)), (180, iP 181 (f2I (fun x y => x + y))), (181, iP 182 fDup2), (182, iRJ 183 qAJ), (183, iP 185 (fJld 8)), (185, iP 186 (fAld 0)), (186, iRR 189 (gtR 55)), (189, iP 191 (fK (.inl 12))), (191, iP 192 (fIld 2)), (192, iP 193 (f2I (fun x y => x * y))), (193, iP 195 (fK (.inl 6))), (195, iP 196 (fIld 3)), (196, iP 197 (f2I (fun x y => x * y))), (197, iP 198 (f2I (fun x y => x + y)))] : List (Nat × AS)), SI X l 161 q.1 q.2 := List.forall_mem_cons.mpr ⟨
  s_iload (k := 4) (show decode (cod 161) 129 = .ok (.iload 4, 2) by decide +kernel), List.forall_mem_cons.mpr ⟨
  s_iadd (show decode (cod 161) 131 = .ok (.iadd, 1) by decide +kernel), List.forall_mem_cons.mpr ⟨
  s_icmpge (show decode (cod 161) 132 = .ok (.if_icmp .ge 89, 3) by decide +kernel) (by decide), List.forall_mem_cons.mpr ⟨
  s_aload_n (k := 0) (show decode (cod 161) 135 = .ok (.aload_n 0, 1) by decide +kernel), List.forall_mem_cons.mpr ⟨
  s_iload (k := 7) (show decode (cod 161) 136 = .ok (.iload 7, 2) by decide +kernel), List.forall_mem_cons.mpr ⟨
  s_invK rfl (rcv_virt (show decode (cod 161) 138 = .ok (.invokevirtual 172, 3) by decide +kernel) cld_161_162 ⟨11, _, _, rfl, by decide, rfl⟩ wd_741 wd_742 wd_743), List.forall_mem_cons.mpr ⟨
  s_iconst (show decode (cod 161) 141 = .ok (.iconst 5, 1) by decide +kernel) rfl, List.forall_mem_cons.mpr ⟨
  s_icmpge (show decode (cod 161) 142 = .ok (.if_icmp .ge 16, 3) by decide +kernel) (by decide), List.forall_mem_cons.mpr ⟨
  s_aload_n (k := 0) (show decode (cod 161) 145 = .ok (.aload_n 0, 1) by decide +kernel), List.forall_mem_cons.mpr ⟨
  s_getR (show decode (cod 161) 146 = .ok (.getfield 38, 3) by decide +kernel) wd_616 (Or.inl rfl) rfl, List.forall_mem_cons.mpr ⟨
  s_iload (k := 10) (show decode (cod 161) 149 = .ok (.iload 10, 2) by decide +kernel), List.forall_mem_cons.mpr ⟨
  s_iload (k := 5) (show decode (cod 161) 151 = .ok (.iload 5, 2) by decide +kernel), List.forall_mem_cons.mpr ⟨
  s_iadd (show decode (cod 161) 153 = .ok (.iadd, 1) by decide +kernel), List.forall_mem_cons.mpr ⟨
  s_iaload (show decode (cod 161) 154 = .ok (.iaload, 1) by decide +kernel), List.forall_mem_cons.mpr ⟨
  s_goto (show decode (cod 161) 155 = .ok (.goto 4, 3) by decide +kernel) (by decide), List.forall_mem_cons.mpr ⟨
  s_iconst (show decode (cod 161) 158 = .ok (.iconst (-1), 1) by decide +kernel) rfl, List.forall_mem_cons.mpr ⟨
  s_istore (k := 12) (show decode (cod 161) 159 = .ok (.istore 12, 2) by decide +kernel), List.forall_mem_cons.mpr ⟨
  s_iload (k := 12) (show decode (cod 161) 161 = .ok (.iload 12, 2) by decide +kernel), List.forall_mem_cons.mpr ⟨
  s_iflt (show decode (cod 161) 163 = .ok (.ifCond .lt 45, 3) by decide +kernel) (by decide), List.forall_mem_cons.mpr ⟨
  s_aload_n (k := 0) (show decode (cod 161) 166 = .ok (.aload_n 0, 1) by decide +kernel), List.forall_mem_cons.mpr ⟨
  s_getR (show decode (cod 161) 167 = .ok (.getfield 47, 3) by decide +kernel) wd_619 (Or.inl rfl) rfl, List.forall_mem_cons.mpr ⟨
  s_sipush (show decode (cod 161) 170 = .ok (.sipush 252, 3) by decide +kernel) rfl, List.forall_mem_cons.mpr ⟨
  s_iload_n (k := 1) (show decode (cod 161) 173 = .ok (.iload_n 1, 1) by decide +kernel), List.forall_mem_cons.mpr ⟨
  s_iload (k := 6) (show decode (cod 161) 174 = .ok (.iload 6, 2) by decide +kernel), List.forall_mem_cons.mpr ⟨
  s_iadd (show decode (cod 161) 176 = .ok (.iadd, 1) by decide +kernel), List.forall_mem_cons.mpr ⟨
  s_imul (show decode (cod 161) 177 = .ok (.imul, 1) by decide +kernel), List.forall_mem_cons.mpr ⟨
  s_iload (k := 12) (show decode (cod 161) 178 = .ok (.iload 12, 2) by decide +kernel), List.forall_mem_cons.mpr ⟨
  s_iadd (show decode (cod 161) 180 = .ok (.iadd, 1) by decide +kernel), List.forall_mem_cons.mpr ⟨
  s_dup2 (show decode (cod 161) 181 = .ok (.dup2, 1) by decide +kernel), List.forall_mem_cons.mpr ⟨
  s_laload (show decode (cod 161) 182 = .ok (.laload, 1) by decide +kernel), List.forall_mem_cons.mpr ⟨
  s_lload (k := 8) (show decode (cod 161) 183 = .ok (.lload 8, 2) by decide +kernel), List.forall_mem_cons.mpr ⟨
  s_aload_n (k := 0) (show decode (cod 161) 185 = .ok (.aload_n 0, 1) by decide +kernel), List.forall_mem_cons.mpr ⟨
  s_getR (show decode (cod 161) 186 = .ok (.getfield 22, 3) by decide +kernel) wd_611 (Or.inl rfl) rfl, List.forall_mem_cons.mpr ⟨
  s_bipush (show decode (cod 161) 189 = .ok (.bipush 12, 2) by decide +kernel) rfl, List.forall_mem_cons.mpr ⟨
  s_iload_n (k := 2) (show decode (cod 161) 191 = .ok (.iload_n 2, 1) by decide +kernel), List.forall_mem_cons.mpr ⟨
  s_imul (show decode (cod 161) 192 = .ok (.imul, 1) by decide +kernel), List.forall_mem_cons.mpr ⟨
  s_bipush (show decode (cod 161) 193 = .ok (.bipush 6, 2) by decide +kernel) rfl, List.forall_mem_cons.mpr ⟨
  s_iload_n (k := 3) (show decode (cod 161) 195 = .ok (.iload_n 3, 1) by decide +kernel), List.forall_mem_cons.mpr ⟨
  s_imul (show decode (cod 161) 196 = .ok (.imul, 1) by decide +kernel), List.forall_mem_cons.mpr ⟨
  s_iadd (show decode (cod 161) 197 = .ok (.iadd, 1) by decide +kernel), fun _ h => by cases h⟩⟩⟩⟩⟩⟩⟩⟩⟩⟩⟩⟩⟩⟩⟩⟩⟩⟩⟩⟩⟩⟩⟩⟩⟩⟩⟩⟩⟩⟩⟩⟩⟩⟩⟩⟩⟩⟩⟩⟩
set_option maxRecDepth 100000 in
set_option maxHeartbeats 4000000 in
theorem si161_3 (X : CX) (l : Launch) : ∀ q ∈ ([(198, iP 199 (fK (.inl 1))), (199, iP 200 (f2I (fun x y => x + y))), (200, iP 202 (fIld 11)), (202, iP 203 (f2I (fun x y => x + y))), (203, iRI 204 qAI), (204, iP 205 fI2l), (205, iP 206 (f2J (fun x y => x * y))), (206, iP 207 (f2J (fun x y => x + y))), (207, iW 208 wAJ), (208, iP 210 (fIld 5)), (210, iP 212 (fK (.inl 6))), (212, iP 213 (f2I (fun x y => x * y))), (213, iP 215 (fIst 5)), (215, iP 218 (fInc 11 1)), (218, iP 126 fGo), (221, iP 224 (fInc 7 1)), (224, iP 40 fGo), (227, iP 230 (fInc 6 1)), (230, iP 22 fGo), (233, iRet rV)] : List (Nat × AS)), SI X l 161 q.1 q.2 := List.forall_mem_cons.mpr ⟨
  s_iconst (show decode (cod 161) 198 = .ok (.iconst 1, 1) by decide +kernel) rfl, List.forall_mem_cons.mpr ⟨
  s_iadd (show decode (cod 161) 199 = .ok (.iadd, 1) by decide +kernel), List.forall_mem_cons.mpr ⟨
  s_iload (k := 11) (show decode (cod 161) 200 = .ok (.iload 11, 2) by decide +kernel), List.forall_mem_cons.mpr ⟨
  s_iadd (show decode (cod 161) 202 = .ok (.iadd, 1) by decide +kernel), List.forall_mem_cons.mpr ⟨
  s_iaload (show decode (cod 161) 203 = .ok (.iaload, 1) by decide +kernel), List.forall_mem_cons.mpr ⟨
  s_i2l (show decode (cod 161) 204 = .ok (.i2l, 1) by decide +kernel), List.forall_mem_cons.mpr ⟨
  s_lmul (show decode (cod 161) 205 = .ok (.lmul, 1) by decide +kernel), List.forall_mem_cons.mpr ⟨
  s_ladd (show decode (cod 161) 206 = .ok (.ladd, 1) by decide +kernel), List.forall_mem_cons.mpr ⟨
  s_lastore (show decode (cod 161) 207 = .ok (.lastore, 1) by decide +kernel), List.forall_mem_cons.mpr ⟨
  s_iload (k := 5) (show decode (cod 161) 208 = .ok (.iload 5, 2) by decide +kernel), List.forall_mem_cons.mpr ⟨
  s_bipush (show decode (cod 161) 210 = .ok (.bipush 6, 2) by decide +kernel) rfl, List.forall_mem_cons.mpr ⟨
  s_imul (show decode (cod 161) 212 = .ok (.imul, 1) by decide +kernel), List.forall_mem_cons.mpr ⟨
  s_istore (k := 5) (show decode (cod 161) 213 = .ok (.istore 5, 2) by decide +kernel), List.forall_mem_cons.mpr ⟨
  s_iinc (show decode (cod 161) 215 = .ok (.iinc 11 1, 3) by decide +kernel) rfl, List.forall_mem_cons.mpr ⟨
  s_goto (show decode (cod 161) 218 = .ok (.goto (-92), 3) by decide +kernel) (by decide), List.forall_mem_cons.mpr ⟨
  s_iinc (show decode (cod 161) 221 = .ok (.iinc 7 1, 3) by decide +kernel) rfl, List.forall_mem_cons.mpr ⟨
  s_goto (show decode (cod 161) 224 = .ok (.goto (-184), 3) by decide +kernel) (by decide), List.forall_mem_cons.mpr ⟨
  s_iinc (show decode (cod 161) 227 = .ok (.iinc 6 1, 3) by decide +kernel) rfl, List.forall_mem_cons.mpr ⟨
  s_goto (show decode (cod 161) 230 = .ok (.goto (-208), 3) by decide +kernel) (by decide), List.forall_mem_cons.mpr ⟨
  s_ret (show decode (cod 161) 233 = .ok (.return_, 1) by decide +kernel) rV_ok (fun h => by cases h), fun _ h => by cases h⟩⟩⟩⟩⟩⟩⟩⟩⟩⟩⟩⟩⟩⟩⟩⟩⟩⟩⟩⟩
set_option maxRecDepth 100000 in
theorem si161 (X : CX) (l : Launch) : ∀ q ∈ pt161, SI X l 161 q.1 q.2 := (List.forall_mem_append (l₁ := _) (l₂ := _)).mpr ⟨si161_0 X l, (List.forall_mem_append (l₁ := _) (l₂ := _)).mpr ⟨si161_1 X l, (List.forall_mem_append (l₁ := _) (l₂ := _)).mpr ⟨si161_2 X l, si161_3 X l⟩⟩⟩
set_option maxRecDepth 100000 in
set_option maxHeartbeats 4000000 in
theorem si162_0 (X : CX) (l : Launch) : ∀ q ∈ ([(0, iP 1 (fK (.inl 0))), (1, iP 2 (fIst 2)), (2, iP 3 (fK (.inl 0))), (3, iP 4 (fIst 3)), (4, iP 5 (fIld 3)), (5, iP 6 (fK (.inl 5))), (6, iB 9 28 (b2 (fun x y => decide (y ≤ x)))), (9, iP 10 (fIld 2)), (10, iP 11 (fAld 0)), (11, iRR 14 (gtR 61)), (14, iP 15 (fK (.inl 5))), (15, iP 16 (fIld 1)), (16, iP 17 (f2I (fun x y => x * y))), (17, iP 18 (fIld 3)), (18, iP 19 (f2I (fun x y => x + y))), (19, iRI 20 qAI), (20, iP 21 (f2I (fun x y => x + y))), (21, iP 22 (fIst 2)), (22, iP 25 (fInc 3 1)), (25, iP 4 fGo), (28, iP 29 (fIld 2)), (29, iRet rI)] : List (Nat × AS)), SI X l 162 q.1 q.2 := List.forall_mem_cons.mpr ⟨
  s_iconst (show decode (cod 162) 0 = .ok (.iconst 0, 1) by decide +kernel) rfl, List.forall_mem_cons.mpr ⟨
  s_istore_n (k := 2) (show decode (cod 162) 1 = .ok (.istore_n 2, 1) by decide +kernel), List.forall_mem_cons.mpr ⟨
  s_iconst (show decode (cod 162) 2 = .ok (.iconst 0, 1) by decide +kernel) rfl, List.forall_mem_cons.mpr ⟨
  s_istore_n (k := 3) (show decode (cod 162) 3 = .ok (.istore_n 3, 1) by decide +kernel), List.forall_mem_cons.mpr ⟨
  s_iload_n (k := 3) (show decode (cod 162) 4 = .ok (.iload_n 3, 1) by decide +kernel), List.forall_mem_cons.mpr ⟨
  s_iconst (show decode (cod 162) 5 = .ok (.iconst 5, 1) by decide +kernel) rfl, List.forall_mem_cons.mpr ⟨
  s_icmpge (show decode (cod 162) 6 = .ok (.if_icmp .ge 22, 3) by decide +kernel) (by decide), List.forall_mem_cons.mpr ⟨
  s_iload_n (k := 2) (show decode (cod 162) 9 = .ok (.iload_n 2, 1) by decide +kernel), List.forall_mem_cons.mpr ⟨
  s_aload_n (k := 0) (show decode (cod 162) 10 = .ok (.aload_n 0, 1) by decide +kernel), List.forall_mem_cons.mpr ⟨
  s_getR (show decode (cod 162) 11 = .ok (.getfield 35, 3) by decide +kernel) wd_615 (Or.inl rfl) rfl, List.forall_mem_cons.mpr ⟨
  s_iconst (show decode (cod 162) 14 = .ok (.iconst 5, 1) by decide +kernel) rfl, List.forall_mem_cons.mpr ⟨
  s_iload_n (k := 1) (show decode (cod 162) 15 = .ok (.iload_n 1, 1) by decide +kernel), List.forall_mem_cons.mpr ⟨
  s_imul (show decode (cod 162) 16 = .ok (.imul, 1) by decide +kernel), List.forall_mem_cons.mpr ⟨
  s_iload_n (k := 3) (show decode (cod 162) 17 = .ok (.iload_n 3, 1) by decide +kernel), List.forall_mem_cons.mpr ⟨
  s_iadd (show decode (cod 162) 18 = .ok (.iadd, 1) by decide +kernel), List.forall_mem_cons.mpr ⟨
  s_iaload (show decode (cod 162) 19 = .ok (.iaload, 1) by decide +kernel), List.forall_mem_cons.mpr ⟨
  s_iadd (show decode (cod 162) 20 = .ok (.iadd, 1) by decide +kernel), List.forall_mem_cons.mpr ⟨
  s_istore_n (k := 2) (show decode (cod 162) 21 = .ok (.istore_n 2, 1) by decide +kernel), List.forall_mem_cons.mpr ⟨
  s_iinc (show decode (cod 162) 22 = .ok (.iinc 3 1, 3) by decide +kernel) rfl, List.forall_mem_cons.mpr ⟨
  s_goto (show decode (cod 162) 25 = .ok (.goto (-21), 3) by decide +kernel) (by decide), List.forall_mem_cons.mpr ⟨
  s_iload_n (k := 2) (show decode (cod 162) 28 = .ok (.iload_n 2, 1) by decide +kernel), List.forall_mem_cons.mpr ⟨
  s_ret (show decode (cod 162) 29 = .ok (.ireturn, 1) by decide +kernel) rI_ok (fun h => by cases h), fun _ h => by cases h⟩⟩⟩⟩⟩⟩⟩⟩⟩⟩⟩⟩⟩⟩⟩⟩⟩⟩⟩⟩⟩⟩
set_option maxRecDepth 100000 in
theorem si162 (X : CX) (l : Launch) : ∀ q ∈ pt162, SI X l 162 q.1 q.2 :=  si162_0 X l
set_option maxRecDepth 100000 in
set_option maxHeartbeats 4000000 in
theorem si163_0 (X : CX) (l : Launch) : ∀ q ∈ ([(0, iP 1 (fAld 0)), (1, iP 3 (fK (.inl 58))), (3, iP 4 (fIld 2)), (4, iP 5 (fK (.inl 0))), (5, iP 7 (fIld 4)), (7, iCK 10 12 161 13 5 0), (10, iP 11 (fAld 0)), (11, iP 13 (fK (.inl 64))), (13, iP 14 (fIld 2)), (14, iP 15 (fK (.inl 1))), (15, iP 17 (fIld 4)), (17, iCK 20 12 161 13 5 0), (20, iP 21 (fK (.inl 2))), (21, iP 22 (fAld 0)), (22, iRR 25 (gtR 54)), (25, iP 26 (fIld 2)), (26, iRI 27 qAI), (27, iP 28 (f2I (fun x y => x * y))), (28, iP 29 (fIld 3)), (29, iP 30 (f2I (fun x y => x + y))), (30, iP 32 (fIst 5)), (32, iP 33 (fK (.inl 0))), (33, iP 35 (fIst 6)), (35, iP 37 (fIld 6)), (37, iP 40 (fK (.inl 252))), (40, iB 43 57 (b2 (fun x y => decide (y ≤ x)))), (43, iP 44 (fAld 0)), (44, iRR 47 (gtR 71)), (47, iP 49 (fIld 6)), (49, iP 50 (fK (.inr (.inl 0)))), (50, iW 51 wAJ), (51, iP 54 (fInc 6 1)), (54, iP 35 fGo), (57, iP 58 (fK (.inl 0))), (58, iP 60 (fIst 6)), (60, iP 62 (fIld 6)), (62, iP 65 (fK (.inl 252))), (65, iB 68 241 (b2 (fun x y => decide (y ≤ x)))), (68, iP 69 (fAld 0)), (69, iRR 72 (gtR 67))] : List (Nat × AS)), SI X l 163 q.1 q.2 := List.forall_mem_cons.mpr ⟨
  s_aload_n (k := 0) (show decode (cod 163) 0 = .ok (.aload_n 0, 1) by decide +kernel), List.forall_mem_cons.mpr ⟨
  s_bipush (show decode (cod 163) 1 = .ok (.bipush 58, 2) by decide +kernel) rfl, List.forall_mem_cons.mpr ⟨
  s_iload_n (k := 2) (show decode (cod 163) 3 = .ok (.iload_n 2, 1) by decide +kernel), List.forall_mem_cons.mpr ⟨
  s_iconst (show decode (cod 163) 4 = .ok (.iconst 0, 1) by decide +kernel) rfl, List.forall_mem_cons.mpr ⟨
  s_iload (k := 4) (show decode (cod 163) 5 = .ok (.iload 4, 2) by decide +kernel), List.forall_mem_cons.mpr ⟨
  s_invK rfl (rcv_virt (show decode (cod 163) 7 = .ok (.invokevirtual 182, 3) by decide +kernel) cld_163_161 ⟨11, _, _, rfl, by decide, rfl⟩ wd_737 wd_738 wd_739), List.forall_mem_cons.mpr ⟨
  s_aload_n (k := 0) (show decode (cod 163) 10 = .ok (.aload_n 0, 1) by decide +kernel), List.forall_mem_cons.mpr ⟨
  s_bipush (show decode (cod 163) 11 = .ok (.bipush 64, 2) by decide +kernel) rfl, List.forall_mem_cons.mpr ⟨
  s_iload_n (k := 2) (show decode (cod 163) 13 = .ok (.iload_n 2, 1) by decide +kernel), List.forall_mem_cons.mpr ⟨
  s_iconst (show decode (cod 163) 14 = .ok (.iconst 1, 1) by decide +kernel) rfl, List.forall_mem_cons.mpr ⟨
  s_iload (k := 4) (show decode (cod 163) 15 = .ok (.iload 4, 2) by decide +kernel), List.forall_mem_cons.mpr ⟨
  s_invK rfl (rcv_virt (show decode (cod 163) 17 = .ok (.invokevirtual 182, 3) by decide +kernel) cld_163_161 ⟨11, _, _, rfl, by decide, rfl⟩ wd_737 wd_738 wd_739), List.forall_mem_cons.mpr ⟨
  s_iconst (show decode (cod 163) 20 = .ok (.iconst 2, 1) by decide +kernel) rfl, List.forall_mem_cons.mpr ⟨
  s_aload_n (k := 0) (show decode (cod 163) 21 = .ok (.aload_n 0, 1) by decide +kernel), List.forall_mem_cons.mpr ⟨
  s_getR (show decode (cod 163) 22 = .ok (.getfield 19, 3) by decide +kernel) wd_610 (Or.inl rfl) rfl, List.forall_mem_cons.mpr ⟨
  s_iload_n (k := 2) (show decode (cod 163) 25 = .ok (.iload_n 2, 1) by decide +kernel), List.forall_mem_cons.mpr ⟨
  s_iaload (show decode (cod 163) 26 = .ok (.iaload, 1) by decide +kernel), List.forall_mem_cons.mpr ⟨
  s_imul (show decode (cod 163) 27 = .ok (.imul, 1) by decide +kernel), List.forall_mem_cons.mpr ⟨
  s_iload_n (k := 3) (show decode (cod 163) 28 = .ok (.iload_n 3, 1) by decide +kernel), List.forall_mem_cons.mpr ⟨
  s_iadd (show decode (cod 163) 29 = .ok (.iadd, 1) by decide +kernel), List.forall_mem_cons.mpr ⟨
  s_istore (k := 5) (show decode (cod 163) 30 = .ok (.istore 5, 2) by decide +kernel), List.forall_mem_cons.mpr ⟨
  s_iconst (show decode (cod 163) 32 = .ok (.iconst 0, 1) by decide +kernel) rfl, List.forall_mem_cons.mpr ⟨
  s_istore (k := 6) (show decode (cod 163) 33 = .ok (.istore 6, 2) by decide +kernel), List.forall_mem_cons.mpr ⟨
  s_iload (k := 6) (show decode (cod 163) 35 = .ok (.iload 6, 2) by decide +kernel), List.forall_mem_cons.mpr ⟨
  s_sipush (show decode (cod 163) 37 = .ok (.sipush 252, 3) by decide +kernel) rfl, List.forall_mem_cons.mpr ⟨
  s_icmpge (show decode (cod 163) 40 = .ok (.if_icmp .ge 17, 3) by decide +kernel) (by decide), List.forall_mem_cons.mpr ⟨
  s_aload_n (k := 0) (show decode (cod 163) 43 = .ok (.aload_n 0, 1) by decide +kernel), List.forall_mem_cons.mpr ⟨
  s_getR (show decode (cod 163) 44 = .ok (.getfield 61, 3) by decide +kernel) wd_624 (Or.inl rfl) rfl, List.forall_mem_cons.mpr ⟨
  s_iload (k := 6) (show decode (cod 163) 47 = .ok (.iload 6, 2) by decide +kernel), List.forall_mem_cons.mpr ⟨
  s_lconst (show decode (cod 163) 49 = .ok (.lconst 0, 1) by decide +kernel) rfl, List.forall_mem_cons.mpr ⟨
  s_lastore (show decode (cod 163) 50 = .ok (.lastore, 1) by decide +kernel), List.forall_mem_cons.mpr ⟨
  s_iinc (show decode (cod 163) 51 = .ok (.iinc 6 1, 3) by decide +kernel) rfl, List.forall_mem_cons.mpr ⟨
  s_goto (show decode (cod 163) 54 = .ok (.goto (-19), 3) by decide +kernel) (by decide), List.forall_mem_cons.mpr ⟨
  s_iconst (show decode (cod 163) 57 = .ok (.iconst 0, 1) by decide +kernel) rfl, List.forall_mem_cons.mpr ⟨
  s_istore (k := 6) (show decode (cod 163) 58 = .ok (.istore 6, 2) by decide +kernel), List.forall_mem_cons.mpr ⟨
  s_iload (k := 6) (show decode (cod 163) 60 = .ok (.iload 6, 2) by decide +kernel), List.forall_mem_cons.mpr ⟨
  s_sipush (show decode (cod 163) 62 = .ok (.sipush 252, 3) by decide +kernel) rfl, List.forall_mem_cons.mpr ⟨
  s_icmpge (show decode (cod 163) 65 = .ok (.if_icmp .ge 176, 3) by decide +kernel) (by decide), List.forall_mem_cons.mpr ⟨
  s_aload_n (k := 0) (show decode (cod 163) 68 = .ok (.aload_n 0, 1) by decide +kernel), List.forall_mem_cons.mpr ⟨
  s_getR (show decode (cod 163) 69 = .ok (.getfield 47, 3) by decide +kernel) wd_619 (Or.inl rfl) rfl, fun _ h => by cases h⟩⟩⟩⟩⟩⟩⟩⟩⟩⟩⟩⟩⟩⟩⟩⟩⟩⟩⟩⟩⟩⟩⟩⟩⟩⟩⟩⟩⟩⟩⟩⟩⟩⟩⟩⟩⟩⟩⟩⟩
set_option maxRecDepth 100000 in
set_option maxHeartbeats 4000000 in
theorem si163_1 (X : CX) (l : Launch) : ∀ q ∈ ([(72, iP 75 (fK (.inl 252))), (75, iP 77 (fIld 5)), (77, iP 78 (f2I (fun x y => x * y))), (78, iP 80 (fIld 6)), (80, iP 81 (f2I (fun x y => x + y))), (81, iRJ 82 qAJ), (82, iP 84 (fLst 7)), (84, iP 86 (fJld 7)), (86, iP 87 (fK (.inr (.inl 0)))), (87, iP 88 fLcmp), (88, iB 91 235 (b1 (fun x => decide (x = 0)))), (91, iP 93 (fK (.inl 58))), (93, iP 94 (fAld 0)), (94, iRR 97 (gtR 61)), (97, iP 98 (fK (.inl 5))), (98, iP 100 (fIld 6)), (100, iP 101 (f2I (fun x y => x * y))), (101, iRI 102 qAI), (102, iP 103 (f2I (fun x y => x + y))), (103, iP 105 (fIst 9)), (105, iP 107 (fK (.inl 64))), (107, iP 108 (fAld 0)), (108, iRR 111 (gtR 61)), (111, iP 112 (fK (.inl 5))), (112, iP 114 (fIld 6)), (114, iP 115 (f2I (fun x y => x * y))), (115, iP 116 (fK (.inl 1))), (116, iP 117 (f2I (fun x y => x + y))), (117, iRI 118 qAI), (118, iP 119 (f2I (fun x y => x + y))), (119, iP 121 (fIst 10)), (121, iP 122 (fK (.inl 0))), (122, iP 124 (fIst 11)), (124, iP 126 (fIld 11)), (126, iP 129 (fK (.inl 252))), (129, iB 132 235 (b2 (fun x y => decide (y ≤ x)))), (132, iP 133 (fAld 0)), (133, iRR 136 (gtR 67)), (136, iP 139 (fK (.inl 252))), (139, iP 141 (fIld 9))] : List (Nat × AS)), SI X l 163 q.1 q.2 := List.forall_mem_cons.mpr ⟨
  s_sipush (show decode (cod 163) 72 = .ok (.sipush 252, 3) by decide +kernel) rfl, List.forall_mem_cons.mpr ⟨
  s_iload (k := 5) (show decode (cod 163) 75 = .ok (.iload 5, 2) by decide +kernel), List.forall_mem_cons.mpr ⟨
  s_imul (show decode (cod 163) 77 = .ok (.imul, 1) by decide +kernel), List.forall_mem_cons.mpr ⟨
  s_iload (k := 6) (show decode (cod 163) 78 = .ok (.iload 6, 2) by decide +kernel), List.forall_mem_cons.mpr ⟨
  s_iadd (show decode (cod 163) 80 = .ok (.iadd, 1) by decide +kernel), List.forall_mem_cons.mpr ⟨
  s_laload (show decode (cod 163) 81 = .ok (.laload, 1) by decide +kernel), List.forall_mem_cons.mpr ⟨
  s_lstore (k := 7) (show decode (cod 163) 82 = .ok (.lstore 7, 2) by decide +kernel), List.forall_mem_cons.mpr ⟨
  s_lload (k := 7) (show decode (cod 163) 84 = .ok (.lload 7, 2) by decide +kernel), List.forall_mem_cons.mpr ⟨
  s_lconst (show decode (cod 163) 86 = .ok (.lconst 0, 1) by decide +kernel) rfl, List.forall_mem_cons.mpr ⟨
  s_lcmp (show decode (cod 163) 87 = .ok (.lcmp, 1) by decide +kernel), List.forall_mem_cons.mpr ⟨
  s_ifeq (show decode (cod 163) 88 = .ok (.ifCond .eq 147, 3) by decide +kernel) (by decide), List.forall_mem_cons.mpr ⟨
  s_bipush (show decode (cod 163) 91 = .ok (.bipush 58, 2) by decide +kernel) rfl, List.forall_mem_cons.mpr ⟨
  s_aload_n (k := 0) (show decode (cod 163) 93 = .ok (.aload_n 0, 1) by decide +kernel), List.forall_mem_cons.mpr ⟨
  s_getR (show decode (cod 163) 94 = .ok (.getfield 35, 3) by decide +kernel) wd_615 (Or.inl rfl) rfl, List.forall_mem_cons.mpr ⟨
  s_iconst (show decode (cod 163) 97 = .ok (.iconst 5, 1) by decide +kernel) rfl, List.forall_mem_cons.mpr ⟨
  s_iload (k := 6) (show decode (cod 163) 98 = .ok (.iload 6, 2) by decide +kernel), List.forall_mem_cons.mpr ⟨
  s_imul (show decode (cod 163) 100 = .ok (.imul, 1) by decide +kernel), List.forall_mem_cons.mpr ⟨
  s_iaload (show decode (cod 163) 101 = .ok (.iaload, 1) by decide +kernel), List.forall_mem_cons.mpr ⟨
  s_iadd (show decode (cod 163) 102 = .ok (.iadd, 1) by decide +kernel), List.forall_mem_cons.mpr ⟨
  s_istore (k := 9) (show decode (cod 163) 103 = .ok (.istore 9, 2) by decide +kernel), List.forall_mem_cons.mpr ⟨
  s_bipush (show decode (cod 163) 105 = .ok (.bipush 64, 2) by decide +kernel) rfl, List.forall_mem_cons.mpr ⟨
  s_aload_n (k := 0) (show decode (cod 163) 107 = .ok (.aload_n 0, 1) by decide +kernel), List.forall_mem_cons.mpr ⟨
  s_getR (show decode (cod 163) 108 = .ok (.getfield 35, 3) by decide +kernel) wd_615 (Or.inl rfl) rfl, List.forall_mem_cons.mpr ⟨
  s_iconst (show decode (cod 163) 111 = .ok (.iconst 5, 1) by decide +kernel) rfl, List.forall_mem_cons.mpr ⟨
  s_iload (k := 6) (show decode (cod 163) 112 = .ok (.iload 6, 2) by decide +kernel), List.forall_mem_cons.mpr ⟨
  s_imul (show decode (cod 163) 114 = .ok (.imul, 1) by decide +kernel), List.forall_mem_cons.mpr ⟨
  s_iconst (show decode (cod 163) 115 = .ok (.iconst 1, 1) by decide +kernel) rfl, List.forall_mem_cons.mpr ⟨
  s_iadd (show decode (cod 163) 116 = .ok (.iadd, 1) by decide +kernel), List.forall_mem_cons.mpr ⟨
  s_iaload (show decode (cod 163) 117 = .ok (.iaload, 1) by decide +kernel), List.forall_mem_cons.mpr ⟨
  s_iadd (show decode (cod 163) 118 = .ok (.iadd, 1) by decide +kernel), List.forall_mem_cons.mpr ⟨
  s_istore (k := 10) (show decode (cod 163) 119 = .ok (.istore 10, 2) by decide +kernel), List.forall_mem_cons.mpr ⟨
  s_iconst (show decode (cod 163) 121 = .ok (.iconst 0, 1) by decide +kernel) rfl, List.forall_mem_cons.mpr ⟨
  s_istore (k := 11) (show decode (cod 163) 122 = .ok (.istore 11, 2) by decide +kernel), List.forall_mem_cons.mpr ⟨
  s_iload (k := 11) (show decode (cod 163) 124 = .ok (.iload 11, 2) by decide +kernel), List.forall_mem_cons.mpr ⟨
  s_sipush (show decode (cod 163) 126 = .ok (.sipush 252, 3) by decide +kernel) rfl, List.forall_mem_cons.mpr ⟨
  s_icmpge (show decode (cod 163) 129 = .ok (.if_icmp .ge 106, 3) by decide +kernel) (by decide), List.forall_mem_cons.mpr ⟨
  s_aload_n (k := 0) (show decode (cod 163) 132 = .ok (.aload_n 0, 1) by decide +kernel), List.forall_mem_cons.mpr ⟨
  s_getR (show decode (cod 163) 133 = .ok (.getfield 47, 3) by decide +kernel) wd_619 (Or.inl rfl) rfl, List.forall_mem_cons.mpr ⟨
  s_sipush (show decode (cod 163) 136 = .ok (.sipush 252, 3) by decide +kernel) rfl, List.forall_mem_cons.mpr ⟨
  s_iload (k := 9) (show decode (cod 163) 139 = .ok (.iload 9, 2) by decide +kernel), fun _ h => by cases h⟩⟩⟩⟩⟩⟩⟩⟩⟩⟩⟩⟩⟩⟩⟩⟩⟩⟩⟩⟩⟩⟩⟩⟩⟩⟩⟩⟩⟩⟩⟩⟩⟩⟩⟩⟩⟩⟩⟩⟩
set_option maxRecDepth 100000 in
set_option maxHeartbeats 4000000 in
theorem si163_2 (X : CX) (l : Launch) : ∀ q ∈ ([(141, iP 142 (f2I (fun x y => x * y))), (142, iP 144 (fIld 11)), (144, iP 145 (f2I (fun x y => x + y))), (145, iRJ 146 qAJ), (146, iP 148 (fLst 12)), (148, iP 149 (fK (.inl 0))), (149, iP 151 (fIst 14)), (151, iP 153 (fIld 14)), (153, iP 156 (fK (.inl 252))), (156, iB 159 229 (b2 (fun x y => decide (y ≤ x)))), (159, iP 161 (fJld 12)), (161, iP 162 (fK (.inr (.inl 0)))), (162, iP 163 fLcmp), (163, iB 166 229 (b1 (fun x => decide (x = 0)))), (166, iP 167 (fAld 0)), (167, iRR 170 (gtR 67)), (170, iP 173 (fK (.inl 252))), (173, iP 175 (fIld 10)), (175, iP 176 (f2I (fun x y => x * y))), (176, iP 178 (fIld 14)), (178, iP 179 (f2I (fun x y => x + y))), (179, iRJ 180 qAJ), (180, iP 182 (fLst 15)), (182, iP 184 (fJld 15)), (184, iP 185 (fK (.inr (.inl 0)))), (185, iP 186 fLcmp), (186, iB 189 223 (b1 (fun x => decide (x = 0)))), (189, iP 190 (fAld 0)), (190, iRR 193 (gtR 71)), (193, iP 194 (fAld 0)), (194, iRR 197 (gtR 62)), (197, iP 198 (fAld 0)), (198, iP 200 (fIld 11)), (200, iCK 203 12 160 4 2 1), (203, iP 204 (fAld 0)), (204, iP 206 (fIld 14)), (206, iCK 209 12 160 4 2 1), (209, iP 210 (f2I (fun x y => x + y))), (210, iRI 211 qAI), (211, iP 212 fDup2)] : List (Nat × AS)), SI X l 163 q.1 q.2 := List.forall_mem_cons.mpr ⟨
  s_imul (show decode (cod 163) 141 = .ok (.imul, 1) by decide +kernel), List.forall_mem_cons.mpr ⟨
  s_iload (k := 11) (show decode (cod 163) 142 = .ok (.iload 11, 2) by decide +kernel), List.forall_mem_cons.mpr ⟨
  s_iadd (show decode (cod 163) 144 = .ok (.iadd, 1) by decide +kernel), List.forall_mem_cons.mpr ⟨
  s_laload (show decode (cod 163) 145 = .ok (.laload, 1) by decide +kernel), List.forall_mem_cons.mpr ⟨
  s_lstore (k := 12) (show decode (cod 163) 146 = .ok (.lstore 12, 2) by decide +kernel), List.forall_mem_cons.mpr ⟨
  s_iconst (show decode (cod 163) 148 = .ok (.iconst 0, 1) by decide +kernel) rfl, List.forall_mem_cons.mpr ⟨
  s_istore (k := 14) (show decode (cod 163) 149 = .ok (.istore 14, 2) by decide +kernel), List.forall_mem_cons.mpr ⟨
  s_iload (k := 14) (show decode (cod 163) 151 = .ok (.iload 14, 2) by decide +kernel), List.forall_mem_cons.mpr ⟨
  s_sipush (show decode (cod 163) 153 = .ok (.sipush 252, 3) by decide +kernel) rfl, List.forall_mem_cons.mpr ⟨
  s_icmpge (show decode (cod 163) 156 = .ok (.if_icmp .ge 73, 3) by decide +kernel) (by decide), List.forall_mem_cons.mpr ⟨
  s_lload (k := 12) (show decode (cod 163) 159 = .ok (.lload 12, 2) by decide +kernel), List.forall_mem_cons.mpr ⟨
  s_lconst (show decode (cod 163) 161 = .ok (.lconst 0, 1) by decide +kernel) rfl, List.forall_mem_cons.mpr ⟨
  s_lcmp (show decode (cod 163) 162 = .ok (.lcmp, 1) by decide +kernel), List.forall_mem_cons.mpr ⟨
  s_ifeq (show decode (cod 163) 163 = .ok (.ifCond .eq 66, 3) by decide +kernel) (by decide), List.forall_mem_cons.mpr ⟨
  s_aload_n (k := 0) (show decode (cod 163) 166 = .ok (.aload_n 0, 1) by decide +kernel), List.forall_mem_cons.mpr ⟨
  s_getR (show decode (cod 163) 167 = .ok (.getfield 47, 3) by decide +kernel) wd_619 (Or.inl rfl) rfl, List.forall_mem_cons.mpr ⟨
  s_sipush (show decode (cod 163) 170 = .ok (.sipush 252, 3) by decide +kernel) rfl, List.forall_mem_cons.mpr ⟨
  s_iload (k := 10) (show decode (cod 163) 173 = .ok (.iload 10, 2) by decide +kernel), List.forall_mem_cons.mpr ⟨
  s_imul (show decode (cod 163) 175 = .ok (.imul, 1) by decide +kernel), List.forall_mem_cons.mpr ⟨
  s_iload (k := 14) (show decode (cod 163) 176 = .ok (.iload 14, 2) by decide +kernel), List.forall_mem_cons.mpr ⟨
  s_iadd (show decode (cod 163) 178 = .ok (.iadd, 1) by decide +kernel), List.forall_mem_cons.mpr ⟨
  s_laload (show decode (cod 163) 179 = .ok (.laload, 1) by decide +kernel), List.forall_mem_cons.mpr ⟨
  s_lstore (k := 15) (show decode (cod 163) 180 = .ok (.lstore 15, 2) by decide +kernel), List.forall_mem_cons.mpr ⟨
  s_lload (k := 15) (show decode (cod 163) 182 = .ok (.lload 15, 2) by decide +kernel), List.forall_mem_cons.mpr ⟨
  s_lconst (show decode (cod 163) 184 = .ok (.lconst 0, 1) by decide +kernel) rfl, List.forall_mem_cons.mpr ⟨
  s_lcmp (show decode (cod 163) 185 = .ok (.lcmp, 1) by decide +kernel), List.forall_mem_cons.mpr ⟨
  s_ifeq (show decode (cod 163) 186 = .ok (.ifCond .eq 37, 3) by decide +kernel) (by decide), List.forall_mem_cons.mpr ⟨
  s_aload_n (k := 0) (show decode (cod 163) 189 = .ok (.aload_n 0, 1) by decide +kernel), List.forall_mem_cons.mpr ⟨
  s_getR (show decode (cod 163) 190 = .ok (.getfield 61, 3) by decide +kernel) wd_624 (Or.inl rfl) rfl, List.forall_mem_cons.mpr ⟨
  s_aload_n (k := 0) (show decode (cod 163) 193 = .ok (.aload_n 0, 1) by decide +kernel), List.forall_mem_cons.mpr ⟨
  s_getR (show decode (cod 163) 194 = .ok (.getfield 38, 3) by decide +kernel) wd_616 (Or.inl rfl) rfl, List.forall_mem_cons.mpr ⟨
  s_aload_n (k := 0) (show decode (cod 163) 197 = .ok (.aload_n 0, 1) by decide +kernel), List.forall_mem_cons.mpr ⟨
  s_iload (k := 11) (show decode (cod 163) 198 = .ok (.iload 11, 2) by decide +kernel), List.forall_mem_cons.mpr ⟨
  s_invK rfl (rcv_virt (show decode (cod 163) 200 = .ok (.invokevirtual 169, 3) by decide +kernel) cld_163_160 ⟨11, _, _, rfl, by decide, rfl⟩ wd_733 wd_734 wd_735), List.forall_mem_cons.mpr ⟨
  s_aload_n (k := 0) (show decode (cod 163) 203 = .ok (.aload_n 0, 1) by decide +kernel), List.forall_mem_cons.mpr ⟨
  s_iload (k := 14) (show decode (cod 163) 204 = .ok (.iload 14, 2) by decide +kernel), List.forall_mem_cons.mpr ⟨
  s_invK rfl (rcv_virt (show decode (cod 163) 206 = .ok (.invokevirtual 169, 3) by decide +kernel) cld_163_160 ⟨11, _, _, rfl, by decide, rfl⟩ wd_733 wd_734 wd_735), List.forall_mem_cons.mpr ⟨
  s_iadd (show decode (cod 163) 209 = .ok (.iadd, 1) by decide +kernel), List.forall_mem_cons.mpr ⟨
  s_iaload (show decode (cod 163) 210 = .ok (.iaload, 1) by decide +kernel), List.forall_mem_cons.mpr ⟨
  s_dup2 (show decode (cod 163) 211 = .ok (.dup2, 1) by decide +kernel), fun _ h => by cases h⟩⟩⟩⟩⟩⟩⟩⟩⟩⟩⟩⟩⟩⟩⟩⟩⟩⟩⟩⟩⟩⟩⟩⟩⟩⟩⟩⟩⟩⟩⟩⟩⟩⟩⟩⟩⟩⟩⟩⟩
set_option maxRecDepth 100000 in
set_option maxHeartbeats 4000000 in
theorem si163_3 (X : CX) (l : Launch) : ∀ q ∈ ([(212, iRJ 213 qAJ), (213, iP 215 (fJld 7)), (215, iP 217 (fJld 12)), (217, iP 218 (f2J (fun x y => x * y))), (218, iP 220 (fJld 15)), (220, iP 221 (f2J (fun x y => x * y))), (221, iP 222 (f2J (fun x y => x + y))), (222, iW 223 wAJ), (223, iP 226 (fInc 14 1)), (226, iP 151 fGo), (229, iP 232 (fInc 11 1)), (232, iP 124 fGo), (235, iP 238 (fInc 6 1)), (238, iP 60 fGo), (241, iP 242 (fK (.inl 0))), (242, iP 244 (fIst 6)), (244, iP 246 (fIld 6)), (246, iP 249 (fK (.inl 252))), (249, iB 252 278 (b2 (fun x y => decide (y ≤ x)))), (252, iP 253 (fAld 0)), (253, iRR 256 (gtR 67)), (256, iP 259 (fK (.inl 252))), (259, iP 260 (fIld 1)), (260, iP 261 (f2I (fun x y => x * y))), (261, iP 263 (fIld 6)), (263, iP 264 (f2I (fun x y => x + y))), (264, iP 265 (fAld 0)), (265, iRR 268 (gtR 71)), (268, iP 270 (fIld 6)), (270, iRJ 271 qAJ), (271, iW 272 wAJ), (272, iP 275 (fInc 6 1)), (275, iP 244 fGo), (278, iRet rV)] : List (Nat × AS)), SI X l 163 q.1 q.2 := List.forall_mem_cons.mpr ⟨
  s_laload (show decode (cod 163) 212 = .ok (.laload, 1) by decide +kernel), List.forall_mem_cons.mpr ⟨
  s_lload (k := 7) (show decode (cod 163) 213 = .ok (.lload 7, 2) by decide +kernel), List.forall_mem_cons.mpr ⟨
  s_lload (k := 12) (show decode (cod 163) 215 = .ok (.lload 12, 2) by decide +kernel), List.forall_mem_cons.mpr ⟨
  s_lmul (show decode (cod 163) 217 = .ok (.lmul, 1) by decide +kernel), List.forall_mem_cons.mpr ⟨
  s_lload (k := 15) (show decode (cod 163) 218 = .ok (.lload 15, 2) by decide +kernel), List.forall_mem_cons.mpr ⟨
  s_lmul (show decode (cod 163) 220 = .ok (.lmul, 1) by decide +kernel), List.forall_mem_cons.mpr ⟨
  s_ladd (show decode (cod 163) 221 = .ok (.ladd, 1) by decide +kernel), List.forall_mem_cons.mpr ⟨
  s_lastore (show decode (cod 163) 222 = .ok (.lastore, 1) by decide +kernel), List.forall_mem_cons.mpr ⟨
  s_iinc (show decode (cod 163) 223 = .ok (.iinc 14 1, 3) by decide +kernel) rfl, List.forall_mem_cons.mpr ⟨
  s_goto (show decode (cod 163) 226 = .ok (.goto (-75), 3) by decide +kernel) (by decide), List.forall_mem_cons.mpr ⟨
  s_iinc (show decode (cod 163) 229 = .ok (.iinc 11 1, 3) by decide +kernel) rfl, List.forall_mem_cons.mpr ⟨
  s_goto (show decode (cod 163) 232 = .ok (.goto (-108), 3) by decide +kernel) (by decide), List.forall_mem_cons.mpr ⟨
  s_iinc (show decode (cod 163) 235 = .ok (.iinc 6 1, 3) by decide +kernel) rfl, List.forall_mem_cons.mpr ⟨
  s_goto (show decode (cod 163) 238 = .ok (.goto (-178), 3) by decide +kernel) (by decide), List.forall_mem_cons.mpr ⟨
  s_iconst (show decode (cod 163) 241 = .ok (.iconst 0, 1) by decide +kernel) rfl, List.forall_mem_cons.mpr ⟨
  s_istore (k := 6) (show decode (cod 163) 242 = .ok (.istore 6, 2) by decide +kernel), List.forall_mem_cons.mpr ⟨
  s_iload (k := 6) (show decode (cod 163) 244 = .ok (.iload 6, 2) by decide +kernel), List.forall_mem_cons.mpr ⟨
  s_sipush (show decode (cod 163) 246 = .ok (.sipush 252, 3) by decide +kernel) rfl, List.forall_mem_cons.mpr ⟨
  s_icmpge (show decode (cod 163) 249 = .ok (.if_icmp .ge 29, 3) by decide +kernel) (by decide), List.forall_mem_cons.mpr ⟨
  s_aload_n (k := 0) (show decode (cod 163) 252 = .ok (.aload_n 0, 1) by decide +kernel), List.forall_mem_cons.mpr ⟨
  s_getR (show decode (cod 163) 253 = .ok (.getfield 47, 3) by decide +kernel) wd_619 (Or.inl rfl) rfl, List.forall_mem_cons.mpr ⟨
  s_sipush (show decode (cod 163) 256 = .ok (.sipush 252, 3) by decide +kernel) rfl, List.forall_mem_cons.mpr ⟨
  s_iload_n (k := 1) (show decode (cod 163) 259 = .ok (.iload_n 1, 1) by decide +kernel), List.forall_mem_cons.mpr ⟨
  s_imul (show decode (cod 163) 260 = .ok (.imul, 1) by decide +kernel), List.forall_mem_cons.mpr ⟨
  s_iload (k := 6) (show decode (cod 163) 261 = .ok (.iload 6, 2) by decide +kernel), List.forall_mem_cons.mpr ⟨
  s_iadd (show decode (cod 163) 263 = .ok (.iadd, 1) by decide +kernel), List.forall_mem_cons.mpr ⟨
  s_aload_n (k := 0) (show decode (cod 163) 264 = .ok (.aload_n 0, 1) by decide +kernel), List.forall_mem_cons.mpr ⟨
  s_getR (show decode (cod 163) 265 = .ok (.getfield 61, 3) by decide +kernel) wd_624 (Or.inl rfl) rfl, List.forall_mem_cons.mpr ⟨
  s_iload (k := 6) (show decode (cod 163) 268 = .ok (.iload 6, 2) by decide +kernel), List.forall_mem_cons.mpr ⟨
  s_laload (show decode (cod 163) 270 = .ok (.laload, 1) by decide +kernel), List.forall_mem_cons.mpr ⟨
  s_lastore (show decode (cod 163) 271 = .ok (.lastore, 1) by decide +kernel), List.forall_mem_cons.mpr ⟨
  s_iinc (show decode (cod 163) 272 = .ok (.iinc 6 1, 3) by decide +kernel) rfl, List.forall_mem_cons.mpr ⟨
  s_goto (show decode (cod 163) 275 = .ok (.goto (-31), 3) by decide +kernel) (by decide), List.forall_mem_cons.mpr ⟨
  s_ret (show decode (cod 163) 278 = .ok (.return_, 1) by decide +kernel) rV_ok (fun h => by cases h), fun _ h => by cases h⟩⟩⟩⟩⟩⟩⟩⟩⟩⟩⟩⟩⟩⟩⟩⟩⟩⟩⟩⟩⟩⟩⟩⟩⟩⟩⟩⟩⟩⟩⟩⟩⟩⟩
set_option maxRecDepth 100000 in
theorem si163 (X : CX) (l : Launch) : ∀ q ∈ pt163, SI X l 163 q.1 q.2 := (List.forall_mem_append (l₁ := _) (l₂ := _)).mpr ⟨si163_0 X l, (List.forall_mem_append (l₁ := _) (l₂ := _)).mpr ⟨si163_1 X l, (List.forall_mem_append (l₁ := _) (l₂ := _)).mpr ⟨si163_2 X l, si163_3 X l⟩⟩⟩
set_option maxRecDepth 100000 in
set_option maxHeartbeats 4000000 in
theorem si164_0 (X : CX) (l : Launch) : ∀ q ∈ ([(0, iP 1 (fK (.inl 0))), (1, iP 2 (fIst 2)), (2, iP 3 (fK (.inl 0))), (3, iP 4 (fIst 3)), (4, iP 5 (fIld 3)), (5, iP 8 (fK (.inl 252))), (8, iB 11 42 (b2 (fun x y => decide (y ≤ x)))), (11, iP 12 (fIld 2)), (12, iP 13 (fAld 0)), (13, iRR 16 (gtR 67)), (16, iP 19 (fK (.inl 252))), (19, iP 20 (fIld 1)), (20, iP 21 (f2I (fun x y => x * y))), (21, iP 22 (fIld 3)), (22, iP 23 (f2I (fun x y => x + y))), (23, iRJ 24 qAJ), (24, iP 25 (fK (.inr (.inl 0)))), (25, iP 26 fLcmp), (26, iB 29 33 (b1 (fun x => decide (x = 0)))), (29, iP 30 (fK (.inl 1))), (30, iP 34 fGo), (33, iP 34 (fK (.inl 0))), (34, iP 35 (f2I (fun x y => x + y))), (35, iP 36 (fIst 2)), (36, iP 39 (fInc 3 1)), (39, iP 4 fGo), (42, iP 43 (fIld 2)), (43, iRet rI)] : List (Nat × AS)), SI X l 164 q.1 q.2 := List.forall_mem_cons.mpr ⟨
  s_iconst (show decode (cod 164) 0 = .ok (.iconst 0, 1) by decide +kernel) rfl, List.forall_mem_cons.mpr ⟨
  s_istore_n (k := 2) (show decode (cod 164) 1 = .ok (.istore_n 2, 1) by decide +kernel), List.forall_mem_cons.mpr ⟨
  s_iconst (show decode (cod 164) 2 = .ok (.iconst 0, 1) by decide +kernel) rfl, List.forall_mem_cons.mpr ⟨
  s_istore_n (k := 3) (show decode (cod 164) 3 = .ok (.istore_n 3, 1) by decide +kernel), List.forall_mem_cons.mpr ⟨
  s_iload_n (k := 3) (show decode (cod 164) 4 = .ok (.iload_n 3, 1) by decide +kernel), List.forall_mem_cons.mpr ⟨
  s_sipush (show decode (cod 164) 5 = .ok (.sipush 252, 3) by decide +kernel) rfl, List.forall_mem_cons.mpr ⟨
  s_icmpge (show decode (cod 164) 8 = .ok (.if_icmp .ge 34, 3) by decide +kernel) (by decide), List.forall_mem_cons.mpr ⟨
  s_iload_n (k := 2) (show decode (cod 164) 11 = .ok (.iload_n 2, 1) by decide +kernel), List.forall_mem_cons.mpr ⟨
  s_aload_n (k := 0) (show decode (cod 164) 12 = .ok (.aload_n 0, 1) by decide +kernel), List.forall_mem_cons.mpr ⟨
  s_getR (show decode (cod 164) 13 = .ok (.getfield 47, 3) by decide +kernel) wd_619 (Or.inl rfl) rfl, List.forall_mem_cons.mpr ⟨
  s_sipush (show decode (cod 164) 16 = .ok (.sipush 252, 3) by decide +kernel) rfl, List.forall_mem_cons.mpr ⟨
  s_iload_n (k := 1) (show decode (cod 164) 19 = .ok (.iload_n 1, 1) by decide +kernel), List.forall_mem_cons.mpr ⟨
  s_imul (show decode (cod 164) 20 = .ok (.imul, 1) by decide +kernel), List.forall_mem_cons.mpr ⟨
  s_iload_n (k := 3) (show decode (cod 164) 21 = .ok (.iload_n 3, 1) by decide +kernel), List.forall_mem_cons.mpr ⟨
  s_iadd (show decode (cod 164) 22 = .ok (.iadd, 1) by decide +kernel), List.forall_mem_cons.mpr ⟨
  s_laload (show decode (cod 164) 23 = .ok (.laload, 1) by decide +kernel), List.forall_mem_cons.mpr ⟨
  s_lconst (show decode (cod 164) 24 = .ok (.lconst 0, 1) by decide +kernel) rfl, List.forall_mem_cons.mpr ⟨
  s_lcmp (show decode (cod 164) 25 = .ok (.lcmp, 1) by decide +kernel), List.forall_mem_cons.mpr ⟨
  s_ifeq (show decode (cod 164) 26 = .ok (.ifCond .eq 7, 3) by decide +kernel) (by decide), List.forall_mem_cons.mpr ⟨
  s_iconst (show decode (cod 164) 29 = .ok (.iconst 1, 1) by decide +kernel) rfl, List.forall_mem_cons.mpr ⟨
  s_goto (show decode (cod 164) 30 = .ok (.goto 4, 3) by decide +kernel) (by decide), List.forall_mem_cons.mpr ⟨
  s_iconst (show decode (cod 164) 33 = .ok (.iconst 0, 1) by decide +kernel) rfl, List.forall_mem_cons.mpr ⟨
  s_iadd (show decode (cod 164) 34 = .ok (.iadd, 1) by decide +kernel), List.forall_mem_cons.mpr ⟨
  s_istore_n (k := 2) (show decode (cod 164) 35 = .ok (.istore_n 2, 1) by decide +kernel), List.forall_mem_cons.mpr ⟨
  s_iinc (show decode (cod 164) 36 = .ok (.iinc 3 1, 3) by decide +kernel) rfl, List.forall_mem_cons.mpr ⟨
  s_goto (show decode (cod 164) 39 = .ok (.goto (-35), 3) by decide +kernel) (by decide), List.forall_mem_cons.mpr ⟨
  s_iload_n (k := 2) (show decode (cod 164) 42 = .ok (.iload_n 2, 1) by decide +kernel), List.forall_mem_cons.mpr ⟨
  s_ret (show decode (cod 164) 43 = .ok (.ireturn, 1) by decide +kernel) rI_ok (fun h => by cases h), fun _ h => by cases h⟩⟩⟩⟩⟩⟩⟩⟩⟩⟩⟩⟩⟩⟩⟩⟩⟩⟩⟩⟩⟩⟩⟩⟩⟩⟩⟩⟩
set_option maxRecDepth 100000 in
theorem si164 (X : CX) (l : Launch) : ∀ q ∈ pt164, SI X l 164 q.1 q.2 :=  si164_0 X l
set_option maxRecDepth 100000 in
set_option maxHeartbeats 4000000 in
theorem si165_0 (X : CX) (l : Launch) : ∀ q ∈ ([(0, iP 1 (fAld 0)), (1, iP 2 (fIld 1)), (2, iCK 5 12 132 2 2 1), (5, iB 8 35 (b1 (fun x => decide (x = 0)))), (8, iP 9 (fIld 2)), (9, iP 10 fI2l), (10, iP 11 (fK (.inr (.inl 0)))), (11, iP 12 (fK (.inr (.inl 1)))), (12, iC 15 130 6 3 1), (15, iB 18 35 (b1 (fun x => decide (x = 0)))), (18, iP 19 (fIld 3)), (19, iB 22 35 (b1 (fun x => decide (x < 0)))), (22, iP 24 (fIld 4)), (24, iP 25 fI2l), (25, iP 26 (fK (.inr (.inl 0)))), (26, iP 29 (fK (.inr (.inl 3)))), (29, iC 32 130 6 3 1), (32, iB 35 39 (b1 (fun x => decide (x ≠ 0)))), (35, iP 38 (fK (.inr (.inl (-1000001))))), (38, iRet rJ), (39, iP 40 (fAld 0)), (40, iP 41 (fIld 1)), (41, iP 42 (fIld 2)), (42, iCK 45 12 152 3 3 1), (45, iP 47 (fIst 5)), (47, iP 49 (fIld 5)), (49, iB 52 56 (b1 (fun x => decide (x = 0)))), (52, iP 54 (fIld 5)), (54, iP 55 fI2l), (55, iRet rJ), (56, iP 57 (fIld 3)), (57, iP 59 (fIst 6)), (59, iP 60 (fK (.inl 5))), (60, iP 62 (fIst 7)), (62, iP 64 (fIld 7)), (64, iB 67 184 (b1 (fun x => decide (x < 0)))), (67, iP 68 (fK (.inl 5))), (68, iP 70 (fIld 7)), (70, iP 71 (f2I (fun x y => x - y))), (71, iP 73 (fIst 8))] : List (Nat × AS)), SI X l 165 q.1 q.2 := List.forall_mem_cons.mpr ⟨
  s_aload_n (k := 0) (show decode (cod 165) 0 = .ok (.aload_n 0, 1) by decide +kernel), List.forall_mem_cons.mpr ⟨
  s_iload_n (k := 1) (show decode (cod 165) 1 = .ok (.iload_n 1, 1) by decide +kernel), List.forall_mem_cons.mpr ⟨
  s_invK rfl (rcv_virt (show decode (cod 165) 2 = .ok (.invokevirtual 118, 3) by decide +kernel) cld_165_132 ⟨11, _, _, rfl, by decide, rfl⟩ wd_646 wd_647 wd_648), List.forall_mem_cons.mpr ⟨
  s_ifeq (show decode (cod 165) 5 = .ok (.ifCond .eq 30, 3) by decide +kernel) (by decide), List.forall_mem_cons.mpr ⟨
  s_iload_n (k := 2) (show decode (cod 165) 8 = .ok (.iload_n 2, 1) by decide +kernel), List.forall_mem_cons.mpr ⟨
  s_i2l (show decode (cod 165) 9 = .ok (.i2l, 1) by decide +kernel), List.forall_mem_cons.mpr ⟨
  s_lconst (show decode (cod 165) 10 = .ok (.lconst 0, 1) by decide +kernel) rfl, List.forall_mem_cons.mpr ⟨
  s_lconst (show decode (cod 165) 11 = .ok (.lconst 1, 1) by decide +kernel) rfl, List.forall_mem_cons.mpr ⟨
  s_invS (show decode (cod 165) 12 = .ok (.invokestatic 100, 3) by decide +kernel) rfl cld_165_130 wd_641 wd_642, List.forall_mem_cons.mpr ⟨
  s_ifeq (show decode (cod 165) 15 = .ok (.ifCond .eq 20, 3) by decide +kernel) (by decide), List.forall_mem_cons.mpr ⟨
  s_iload_n (k := 3) (show decode (cod 165) 18 = .ok (.iload_n 3, 1) by decide +kernel), List.forall_mem_cons.mpr ⟨
  s_iflt (show decode (cod 165) 19 = .ok (.ifCond .lt 16, 3) by decide +kernel) (by decide), List.forall_mem_cons.mpr ⟨
  s_iload (k := 4) (show decode (cod 165) 22 = .ok (.iload 4, 2) by decide +kernel), List.forall_mem_cons.mpr ⟨
  s_i2l (show decode (cod 165) 24 = .ok (.i2l, 1) by decide +kernel), List.forall_mem_cons.mpr ⟨
  s_lconst (show decode (cod 165) 25 = .ok (.lconst 0, 1) by decide +kernel) rfl, List.forall_mem_cons.mpr ⟨
  s_ldc2 (show decode (cod 165) 26 = .ok (.ldc2_w 215, 3) by decide +kernel) wd_745, List.forall_mem_cons.mpr ⟨
  s_invS (show decode (cod 165) 29 = .ok (.invokestatic 100, 3) by decide +kernel) rfl cld_165_130 wd_641 wd_642, List.forall_mem_cons.mpr ⟨
  s_ifne (show decode (cod 165) 32 = .ok (.ifCond .ne 7, 3) by decide +kernel) (by decide), List.forall_mem_cons.mpr ⟨
  s_ldc2 (show decode (cod 165) 35 = .ok (.ldc2_w 217, 3) by decide +kernel) wd_746, List.forall_mem_cons.mpr ⟨
  s_ret (show decode (cod 165) 38 = .ok (.lreturn, 1) by decide +kernel) rJ_ok (fun h => by cases h), List.forall_mem_cons.mpr ⟨
  s_aload_n (k := 0) (show decode (cod 165) 39 = .ok (.aload_n 0, 1) by decide +kernel), List.forall_mem_cons.mpr ⟨
  s_iload_n (k := 1) (show decode (cod 165) 40 = .ok (.iload_n 1, 1) by decide +kernel), List.forall_mem_cons.mpr ⟨
  s_iload_n (k := 2) (show decode (cod 165) 41 = .ok (.iload_n 2, 1) by decide +kernel), List.forall_mem_cons.mpr ⟨
  s_invK rfl (rcv_virt (show decode (cod 165) 42 = .ok (.invokevirtual 209, 3) by decide +kernel) cld_165_152 ⟨11, _, _, rfl, by decide, rfl⟩ wd_691 wd_692 wd_693), List.forall_mem_cons.mpr ⟨
  s_istore (k := 5) (show decode (cod 165) 45 = .ok (.istore 5, 2) by decide +kernel), List.forall_mem_cons.mpr ⟨
  s_iload (k := 5) (show decode (cod 165) 47 = .ok (.iload 5, 2) by decide +kernel), List.forall_mem_cons.mpr ⟨
  s_ifeq (show decode (cod 165) 49 = .ok (.ifCond .eq 7, 3) by decide +kernel) (by decide), List.forall_mem_cons.mpr ⟨
  s_iload (k := 5) (show decode (cod 165) 52 = .ok (.iload 5, 2) by decide +kernel), List.forall_mem_cons.mpr ⟨
  s_i2l (show decode (cod 165) 54 = .ok (.i2l, 1) by decide +kernel), List.forall_mem_cons.mpr ⟨
  s_ret (show decode (cod 165) 55 = .ok (.lreturn, 1) by decide +kernel) rJ_ok (fun h => by cases h), List.forall_mem_cons.mpr ⟨
  s_iload_n (k := 3) (show decode (cod 165) 56 = .ok (.iload_n 3, 1) by decide +kernel), List.forall_mem_cons.mpr ⟨
  s_istore (k := 6) (show decode (cod 165) 57 = .ok (.istore 6, 2) by decide +kernel), List.forall_mem_cons.mpr ⟨
  s_iconst (show decode (cod 165) 59 = .ok (.iconst 5, 1) by decide +kernel) rfl, List.forall_mem_cons.mpr ⟨
  s_istore (k := 7) (show decode (cod 165) 60 = .ok (.istore 7, 2) by decide +kernel), List.forall_mem_cons.mpr ⟨
  s_iload (k := 7) (show decode (cod 165) 62 = .ok (.iload 7, 2) by decide +kernel), List.forall_mem_cons.mpr ⟨
  s_iflt (show decode (cod 165) 64 = .ok (.ifCond .lt 120, 3) by decide +kernel) (by decide), List.forall_mem_cons.mpr ⟨
  s_iconst (show decode (cod 165) 67 = .ok (.iconst 5, 1) by decide +kernel) rfl, List.forall_mem_cons.mpr ⟨
  s_iload (k := 7) (show decode (cod 165) 68 = .ok (.iload 7, 2) by decide +kernel), List.forall_mem_cons.mpr ⟨
  s_isub (show decode (cod 165) 70 = .ok (.isub, 1) by decide +kernel), List.forall_mem_cons.mpr ⟨
  s_istore (k := 8) (show decode (cod 165) 71 = .ok (.istore 8, 2) by decide +kernel), fun _ h => by cases h⟩⟩⟩⟩⟩⟩⟩⟩⟩⟩⟩⟩⟩⟩⟩⟩⟩⟩⟩⟩⟩⟩⟩⟩⟩⟩⟩⟩⟩⟩⟩⟩⟩⟩⟩⟩⟩⟩⟩⟩
set_option maxRecDepth 100000 in
set_option maxHeartbeats 4000000 in
theorem si165_1 (X : CX) (l : Launch) : ∀ q ∈ ([(73, iP 75 (fIld 8)), (75, iB 78 178 (b1 (fun x => decide (x < 0)))), (78, iP 79 (fAld 0)), (79, iRR 82 (gtR 67)), (82, iP 85 (fK (.inl 252))), (85, iP 86 (fK (.inl 2))), (86, iP 87 (fIld 1)), (87, iP 88 (f2I (fun x y => x * y))), (88, iP 89 (fIld 2)), (89, iP 90 (f2I (fun x y => x + y))), (90, iP 91 (f2I (fun x y => x * y))), (91, iP 92 (fAld 0)), (92, iP 94 (fIld 7)), (94, iP 96 (fIld 8)), (96, iCK 99 12 166 3 3 1), (99, iP 100 (f2I (fun x y => x + y))), (100, iRJ 101 qAJ), (101, iP 103 (fLst 9)), (103, iP 105 (fJld 9)), (105, iP 106 (fK (.inr (.inl 0)))), (106, iP 107 fLcmp), (107, iB 110 172 (b1 (fun x => decide (x = 0)))), (110, iP 112 (fIld 6)), (112, iB 115 169 (b1 (fun x => decide (x ≠ 0)))), (115, iP 117 (fJld 9)), (117, iP 120 (fK (.inr (.inl 8640)))), (120, iC 123 167 10 2 2), (123, iP 125 (fLst 11)), (125, iP 127 (fIld 4)), (127, iB 130 138 (b1 (fun x => decide (x ≠ 0)))), (130, iP 132 (fJld 9)), (132, iP 134 (fJld 11)), (134, iRJ 135 (q2J (fun x y => x / y))), (135, iP 168 fGo), (138, iP 140 (fIld 4)), (140, iP 141 (fK (.inl 1))), (141, iB 144 153 (b2 (fun x y => decide (x ≠ y)))), (144, iP 147 (fK (.inr (.inl 8640)))), (147, iP 149 (fJld 11)), (149, iRJ 150 (q2J (fun x y => x / y)))] : List (Nat × AS)), SI X l 165 q.1 q.2 := List.forall_mem_cons.mpr ⟨
  s_iload (k := 8) (show decode (cod 165) 73 = .ok (.iload 8, 2) by decide +kernel), List.forall_mem_cons.mpr ⟨
  s_iflt (show decode (cod 165) 75 = .ok (.ifCond .lt 103, 3) by decide +kernel) (by decide), List.forall_mem_cons.mpr ⟨
  s_aload_n (k := 0) (show decode (cod 165) 78 = .ok (.aload_n 0, 1) by decide +kernel), List.forall_mem_cons.mpr ⟨
  s_getR (show decode (cod 165) 79 = .ok (.getfield 47, 3) by decide +kernel) wd_619 (Or.inl rfl) rfl, List.forall_mem_cons.mpr ⟨
  s_sipush (show decode (cod 165) 82 = .ok (.sipush 252, 3) by decide +kernel) rfl, List.forall_mem_cons.mpr ⟨
  s_iconst (show decode (cod 165) 85 = .ok (.iconst 2, 1) by decide +kernel) rfl, List.forall_mem_cons.mpr ⟨
  s_iload_n (k := 1) (show decode (cod 165) 86 = .ok (.iload_n 1, 1) by decide +kernel), List.forall_mem_cons.mpr ⟨
  s_imul (show decode (cod 165) 87 = .ok (.imul, 1) by decide +kernel), List.forall_mem_cons.mpr ⟨
  s_iload_n (k := 2) (show decode (cod 165) 88 = .ok (.iload_n 2, 1) by decide +kernel), List.forall_mem_cons.mpr ⟨
  s_iadd (show decode (cod 165) 89 = .ok (.iadd, 1) by decide +kernel), List.forall_mem_cons.mpr ⟨
  s_imul (show decode (cod 165) 90 = .ok (.imul, 1) by decide +kernel), List.forall_mem_cons.mpr ⟨
  s_aload_n (k := 0) (show decode (cod 165) 91 = .ok (.aload_n 0, 1) by decide +kernel), List.forall_mem_cons.mpr ⟨
  s_iload (k := 7) (show decode (cod 165) 92 = .ok (.iload 7, 2) by decide +kernel), List.forall_mem_cons.mpr ⟨
  s_iload (k := 8) (show decode (cod 165) 94 = .ok (.iload 8, 2) by decide +kernel), List.forall_mem_cons.mpr ⟨
  s_invK rfl (rcv_virt (show decode (cod 165) 96 = .ok (.invokevirtual 219, 3) by decide +kernel) cld_165_166 ⟨11, _, _, rfl, by decide, rfl⟩ wd_748 wd_749 wd_750), List.forall_mem_cons.mpr ⟨
  s_iadd (show decode (cod 165) 99 = .ok (.iadd, 1) by decide +kernel), List.forall_mem_cons.mpr ⟨
  s_laload (show decode (cod 165) 100 = .ok (.laload, 1) by decide +kernel), List.forall_mem_cons.mpr ⟨
  s_lstore (k := 9) (show decode (cod 165) 101 = .ok (.lstore 9, 2) by decide +kernel), List.forall_mem_cons.mpr ⟨
  s_lload (k := 9) (show decode (cod 165) 103 = .ok (.lload 9, 2) by decide +kernel), List.forall_mem_cons.mpr ⟨
  s_lconst (show decode (cod 165) 105 = .ok (.lconst 0, 1) by decide +kernel) rfl, List.forall_mem_cons.mpr ⟨
  s_lcmp (show decode (cod 165) 106 = .ok (.lcmp, 1) by decide +kernel), List.forall_mem_cons.mpr ⟨
  s_ifeq (show decode (cod 165) 107 = .ok (.ifCond .eq 65, 3) by decide +kernel) (by decide), List.forall_mem_cons.mpr ⟨
  s_iload (k := 6) (show decode (cod 165) 110 = .ok (.iload 6, 2) by decide +kernel), List.forall_mem_cons.mpr ⟨
  s_ifne (show decode (cod 165) 112 = .ok (.ifCond .ne 57, 3) by decide +kernel) (by decide), List.forall_mem_cons.mpr ⟨
  s_lload (k := 9) (show decode (cod 165) 115 = .ok (.lload 9, 2) by decide +kernel), List.forall_mem_cons.mpr ⟨
  s_ldc2 (show decode (cod 165) 117 = .ok (.ldc2_w 191, 3) by decide +kernel) wd_710, List.forall_mem_cons.mpr ⟨
  s_invS (show decode (cod 165) 120 = .ok (.invokestatic 222, 3) by decide +kernel) rfl cld_165_167 wd_752 wd_753, List.forall_mem_cons.mpr ⟨
  s_lstore (k := 11) (show decode (cod 165) 123 = .ok (.lstore 11, 2) by decide +kernel), List.forall_mem_cons.mpr ⟨
  s_iload (k := 4) (show decode (cod 165) 125 = .ok (.iload 4, 2) by decide +kernel), List.forall_mem_cons.mpr ⟨
  s_ifne (show decode (cod 165) 127 = .ok (.ifCond .ne 11, 3) by decide +kernel) (by decide), List.forall_mem_cons.mpr ⟨
  s_lload (k := 9) (show decode (cod 165) 130 = .ok (.lload 9, 2) by decide +kernel), List.forall_mem_cons.mpr ⟨
  s_lload (k := 11) (show decode (cod 165) 132 = .ok (.lload 11, 2) by decide +kernel), List.forall_mem_cons.mpr ⟨
  s_ldiv (show decode (cod 165) 134 = .ok (.ldiv, 1) by decide +kernel), List.forall_mem_cons.mpr ⟨
  s_goto (show decode (cod 165) 135 = .ok (.goto 33, 3) by decide +kernel) (by decide), List.forall_mem_cons.mpr ⟨
  s_iload (k := 4) (show decode (cod 165) 138 = .ok (.iload 4, 2) by decide +kernel), List.forall_mem_cons.mpr ⟨
  s_iconst (show decode (cod 165) 140 = .ok (.iconst 1, 1) by decide +kernel) rfl, List.forall_mem_cons.mpr ⟨
  s_icmpne (show decode (cod 165) 141 = .ok (.if_icmp .ne 12, 3) by decide +kernel) (by decide), List.forall_mem_cons.mpr ⟨
  s_ldc2 (show decode (cod 165) 144 = .ok (.ldc2_w 191, 3) by decide +kernel) wd_710, List.forall_mem_cons.mpr ⟨
  s_lload (k := 11) (show decode (cod 165) 147 = .ok (.lload 11, 2) by decide +kernel), List.forall_mem_cons.mpr ⟨
  s_ldiv (show decode (cod 165) 149 = .ok (.ldiv, 1) by decide +kernel), fun _ h => by cases h⟩⟩⟩⟩⟩⟩⟩⟩⟩⟩⟩⟩⟩⟩⟩⟩⟩⟩⟩⟩⟩⟩⟩⟩⟩⟩⟩⟩⟩⟩⟩⟩⟩⟩⟩⟩⟩⟩⟩⟩
set_option maxRecDepth 100000 in
set_option maxHeartbeats 4000000 in
theorem si165_2 (X : CX) (l : Launch) : ∀ q ∈ ([(150, iP 168 fGo), (153, iP 155 (fIld 4)), (155, iP 156 (fK (.inl 2))), (156, iB 159 165 (b2 (fun x y => decide (x ≠ y)))), (159, iP 161 (fIld 7)), (161, iP 162 fI2l), (162, iP 168 fGo), (165, iP 167 (fIld 8)), (167, iP 168 fI2l), (168, iRet rJ), (169, iP 172 (fInc 6 (-1))), (172, iP 175 (fInc 8 (-1))), (175, iP 73 fGo), (178, iP 181 (fInc 7 (-1))), (181, iP 62 fGo), (184, iP 187 (fK (.inr (.inl (-1000001))))), (187, iRet rJ)] : List (Nat × AS)), SI X l 165 q.1 q.2 := List.forall_mem_cons.mpr ⟨
  s_goto (show decode (cod 165) 150 = .ok (.goto 18, 3) by decide +kernel) (by decide), List.forall_mem_cons.mpr ⟨
  s_iload (k := 4) (show decode (cod 165) 153 = .ok (.iload 4, 2) by decide +kernel), List.forall_mem_cons.mpr ⟨
  s_iconst (show decode (cod 165) 155 = .ok (.iconst 2, 1) by decide +kernel) rfl, List.forall_mem_cons.mpr ⟨
  s_icmpne (show decode (cod 165) 156 = .ok (.if_icmp .ne 9, 3) by decide +kernel) (by decide), List.forall_mem_cons.mpr ⟨
  s_iload (k := 7) (show decode (cod 165) 159 = .ok (.iload 7, 2) by decide +kernel), List.forall_mem_cons.mpr ⟨
  s_i2l (show decode (cod 165) 161 = .ok (.i2l, 1) by decide +kernel), List.forall_mem_cons.mpr ⟨
  s_goto (show decode (cod 165) 162 = .ok (.goto 6, 3) by decide +kernel) (by decide), List.forall_mem_cons.mpr ⟨
  s_iload (k := 8) (show decode (cod 165) 165 = .ok (.iload 8, 2) by decide +kernel), List.forall_mem_cons.mpr ⟨
  s_i2l (show decode (cod 165) 167 = .ok (.i2l, 1) by decide +kernel), List.forall_mem_cons.mpr ⟨
  s_ret (show decode (cod 165) 168 = .ok (.lreturn, 1) by decide +kernel) rJ_ok (fun h => by cases h), List.forall_mem_cons.mpr ⟨
  s_iinc (show decode (cod 165) 169 = .ok (.iinc 6 (-1), 3) by decide +kernel) rfl, List.forall_mem_cons.mpr ⟨
  s_iinc (show decode (cod 165) 172 = .ok (.iinc 8 (-1), 3) by decide +kernel) rfl, List.forall_mem_cons.mpr ⟨
  s_goto (show decode (cod 165) 175 = .ok (.goto (-102), 3) by decide +kernel) (by decide), List.forall_mem_cons.mpr ⟨
  s_iinc (show decode (cod 165) 178 = .ok (.iinc 7 (-1), 3) by decide +kernel) rfl, List.forall_mem_cons.mpr ⟨
  s_goto (show decode (cod 165) 181 = .ok (.goto (-119), 3) by decide +kernel) (by decide), List.forall_mem_cons.mpr ⟨
  s_ldc2 (show decode (cod 165) 184 = .ok (.ldc2_w 217, 3) by decide +kernel) wd_746, List.forall_mem_cons.mpr ⟨
  s_ret (show decode (cod 165) 187 = .ok (.lreturn, 1) by decide +kernel) rJ_ok (fun h => by cases h), fun _ h => by cases h⟩⟩⟩⟩⟩⟩⟩⟩⟩⟩⟩⟩⟩⟩⟩⟩⟩
set_option maxRecDepth 100000 in
theorem si165 (X : CX) (l : Launch) : ∀ q ∈ pt165, SI X l 165 q.1 q.2 := (List.forall_mem_append (l₁ := _) (l₂ := _)).mpr ⟨si165_0 X l, (List.forall_mem_append (l₁ := _) (l₂ := _)).mpr ⟨si165_1 X l, si165_2 X l⟩⟩
set_option maxRecDepth 100000 in
set_option maxHeartbeats 4000000 in
theorem si166_0 (X : CX) (l : Launch) : ∀ q ∈ ([(0, iP 1 (fAld 0)), (1, iRR 4 (gtR 62)), (4, iP 5 (fIld 1)), (5, iP 7 (fK (.inl 6))), (7, iP 8 (fIld 2)), (8, iP 9 (f2I (fun x y => x * y))), (9, iP 10 (f2I (fun x y => x + y))), (10, iRI 11 qAI), (11, iRet rI)] : List (Nat × AS)), SI X l 166 q.1 q.2 := List.forall_mem_cons.mpr ⟨
  s_aload_n (k := 0) (show decode (cod 166) 0 = .ok (.aload_n 0, 1) by decide +kernel), List.forall_mem_cons.mpr ⟨
  s_getR (show decode (cod 166) 1 = .ok (.getfield 38, 3) by decide +kernel) wd_616 (Or.inl rfl) rfl, List.forall_mem_cons.mpr ⟨
  s_iload_n (k := 1) (show decode (cod 166) 4 = .ok (.iload_n 1, 1) by decide +kernel), List.forall_mem_cons.mpr ⟨
  s_bipush (show decode (cod 166) 5 = .ok (.bipush 6, 2) by decide +kernel) rfl, List.forall_mem_cons.mpr ⟨
  s_iload_n (k := 2) (show decode (cod 166) 7 = .ok (.iload_n 2, 1) by decide +kernel), List.forall_mem_cons.mpr ⟨
  s_imul (show decode (cod 166) 8 = .ok (.imul, 1) by decide +kernel), List.forall_mem_cons.mpr ⟨
  s_iadd (show decode (cod 166) 9 = .ok (.iadd, 1) by decide +kernel), List.forall_mem_cons.mpr ⟨
  s_iaload (show decode (cod 166) 10 = .ok (.iaload, 1) by decide +kernel), List.forall_mem_cons.mpr ⟨
  s_ret (show decode (cod 166) 11 = .ok (.ireturn, 1) by decide +kernel) rI_ok (fun h => by cases h), fun _ h => by cases h⟩⟩⟩⟩⟩⟩⟩⟩⟩
set_option maxRecDepth 100000 in
theorem si166 (X : CX) (l : Launch) : ∀ q ∈ pt166, SI X l 166 q.1 q.2 :=  si166_0 X l
set_option maxRecDepth 100000 in
set_option maxHeartbeats 4000000 in
theorem si167_0 (X : CX) (l : Launch) : ∀ q ∈ ([(0, iP 1 (fJld 0)), (1, iP 2 (fK (.inr (.inl 0)))), (2, iP 3 fLcmp), (3, iB 6 11 (b1 (fun x => decide (0 ≤ x)))), (6, iP 7 (fJld 0)), (7, iP 8 fLneg), (8, iP 12 fGo), (11, iP 12 (fJld 0)), (12, iP 14 (fLst 4)), (14, iP 15 (fJld 2)), (15, iP 17 (fLst 6)), (17, iP 19 (fJld 6)), (19, iP 20 (fK (.inr (.inl 0)))), (20, iP 21 fLcmp), (21, iB 24 42 (b1 (fun x => decide (x = 0)))), (24, iP 26 (fJld 4)), (26, iP 28 (fJld 6)), (28, iRJ 29 (q2J (fun x y => x - x / y * y))), (29, iP 31 (fLst 8)), (31, iP 33 (fJld 6)), (33, iP 35 (fLst 4)), (35, iP 37 (fJld 8)), (37, iP 39 (fLst 6)), (39, iP 17 fGo), (42, iP 44 (fJld 4)), (44, iRet rJ)] : List (Nat × AS)), SI X l 167 q.1 q.2 := List.forall_mem_cons.mpr ⟨
  s_lload_n (k := 0) (show decode (cod 167) 0 = .ok (.lload_n 0, 1) by decide +kernel), List.forall_mem_cons.mpr ⟨
  s_lconst (show decode (cod 167) 1 = .ok (.lconst 0, 1) by decide +kernel) rfl, List.forall_mem_cons.mpr ⟨
  s_lcmp (show decode (cod 167) 2 = .ok (.lcmp, 1) by decide +kernel), List.forall_mem_cons.mpr ⟨
  s_ifge (show decode (cod 167) 3 = .ok (.ifCond .ge 8, 3) by decide +kernel) (by decide), List.forall_mem_cons.mpr ⟨
  s_lload_n (k := 0) (show decode (cod 167) 6 = .ok (.lload_n 0, 1) by decide +kernel), List.forall_mem_cons.mpr ⟨
  s_lneg (show decode (cod 167) 7 = .ok (.lneg, 1) by decide +kernel), List.forall_mem_cons.mpr ⟨
  s_goto (show decode (cod 167) 8 = .ok (.goto 4, 3) by decide +kernel) (by decide), List.forall_mem_cons.mpr ⟨
  s_lload_n (k := 0) (show decode (cod 167) 11 = .ok (.lload_n 0, 1) by decide +kernel), List.forall_mem_cons.mpr ⟨
  s_lstore (k := 4) (show decode (cod 167) 12 = .ok (.lstore 4, 2) by decide +kernel), List.forall_mem_cons.mpr ⟨
  s_lload_n (k := 2) (show decode (cod 167) 14 = .ok (.lload_n 2, 1) by decide +kernel), List.forall_mem_cons.mpr ⟨
  s_lstore (k := 6) (show decode (cod 167) 15 = .ok (.lstore 6, 2) by decide +kernel), List.forall_mem_cons.mpr ⟨
  s_lload (k := 6) (show decode (cod 167) 17 = .ok (.lload 6, 2) by decide +kernel), List.forall_mem_cons.mpr ⟨
  s_lconst (show decode (cod 167) 19 = .ok (.lconst 0, 1) by decide +kernel) rfl, List.forall_mem_cons.mpr ⟨
  s_lcmp (show decode (cod 167) 20 = .ok (.lcmp, 1) by decide +kernel), List.forall_mem_cons.mpr ⟨
  s_ifeq (show decode (cod 167) 21 = .ok (.ifCond .eq 21, 3) by decide +kernel) (by decide), List.forall_mem_cons.mpr ⟨
  s_lload (k := 4) (show decode (cod 167) 24 = .ok (.lload 4, 2) by decide +kernel), List.forall_mem_cons.mpr ⟨
  s_lload (k := 6) (show decode (cod 167) 26 = .ok (.lload 6, 2) by decide +kernel), List.forall_mem_cons.mpr ⟨
  s_lrem (show decode (cod 167) 28 = .ok (.lrem, 1) by decide +kernel), List.forall_mem_cons.mpr ⟨
  s_lstore (k := 8) (show decode (cod 167) 29 = .ok (.lstore 8, 2) by decide +kernel), List.forall_mem_cons.mpr ⟨
  s_lload (k := 6) (show decode (cod 167) 31 = .ok (.lload 6, 2) by decide +kernel), List.forall_mem_cons.mpr ⟨
  s_lstore (k := 4) (show decode (cod 167) 33 = .ok (.lstore 4, 2) by decide +kernel), List.forall_mem_cons.mpr ⟨
  s_lload (k := 8) (show decode (cod 167) 35 = .ok (.lload 8, 2) by decide +kernel), List.forall_mem_cons.mpr ⟨
  s_lstore (k := 6) (show decode (cod 167) 37 = .ok (.lstore 6, 2) by decide +kernel), List.forall_mem_cons.mpr ⟨
  s_goto (show decode (cod 167) 39 = .ok (.goto (-22), 3) by decide +kernel) (by decide), List.forall_mem_cons.mpr ⟨
  s_lload (k := 4) (show decode (cod 167) 42 = .ok (.lload 4, 2) by decide +kernel), List.forall_mem_cons.mpr ⟨
  s_ret (show decode (cod 167) 44 = .ok (.lreturn, 1) by decide +kernel) rJ_ok (fun h => by cases h), fun _ h => by cases h⟩⟩⟩⟩⟩⟩⟩⟩⟩⟩⟩⟩⟩⟩⟩⟩⟩⟩⟩⟩⟩⟩⟩⟩⟩⟩
set_option maxRecDepth 100000 in
theorem si167 (X : CX) (l : Launch) : ∀ q ∈ pt167, SI X l 167 q.1 q.2 :=  si167_0 X l
set_option maxRecDepth 100000 in
set_option maxHeartbeats 4000000 in
theorem si168_0 (X : CX) (l : Launch) : ∀ q ∈ ([(0, iP 1 (fAld 0)), (1, iP 2 (fIld 1)), (2, iCK 5 12 132 2 2 1), (5, iB 8 27 (b1 (fun x => decide (x = 0)))), (8, iP 9 (fIld 2)), (9, iP 10 fI2l), (10, iP 11 (fK (.inr (.inl 0)))), (11, iP 12 (fK (.inr (.inl 1)))), (12, iC 15 130 6 3 1), (15, iB 18 27 (b1 (fun x => decide (x = 0)))), (18, iP 19 (fIld 3)), (19, iP 21 (fIld 4)), (21, iC 24 169 2 2 1), (24, iB 27 31 (b1 (fun x => decide (x ≠ 0)))), (27, iP 30 (fK (.inr (.inl (-1000001))))), (30, iRet rJ), (31, iP 32 (fAld 0)), (32, iP 33 (fIld 1)), (33, iP 34 (fIld 2)), (34, iCK 37 12 152 3 3 1), (37, iP 39 (fIst 5)), (39, iP 41 (fIld 5)), (41, iB 44 50 (b1 (fun x => decide (x = 0)))), (44, iP 46 (fIld 5)), (46, iP 47 fI2l), (47, iP 59 fGo), (50, iP 51 (fAld 0)), (51, iP 52 (fIld 1)), (52, iP 53 (fIld 2)), (53, iP 54 (fIld 3)), (54, iP 56 (fIld 4)), (56, iCK 59 12 170 13 5 2), (59, iRet rJ)] : List (Nat × AS)), SI X l 168 q.1 q.2 := List.forall_mem_cons.mpr ⟨
  s_aload_n (k := 0) (show decode (cod 168) 0 = .ok (.aload_n 0, 1) by decide +kernel), List.forall_mem_cons.mpr ⟨
  s_iload_n (k := 1) (show decode (cod 168) 1 = .ok (.iload_n 1, 1) by decide +kernel), List.forall_mem_cons.mpr ⟨
  s_invK rfl (rcv_virt (show decode (cod 168) 2 = .ok (.invokevirtual 118, 3) by decide +kernel) cld_168_132 ⟨11, _, _, rfl, by decide, rfl⟩ wd_646 wd_647 wd_648), List.forall_mem_cons.mpr ⟨
  s_ifeq (show decode (cod 168) 5 = .ok (.ifCond .eq 22, 3) by decide +kernel) (by decide), List.forall_mem_cons.mpr ⟨
  s_iload_n (k := 2) (show decode (cod 168) 8 = .ok (.iload_n 2, 1) by decide +kernel), List.forall_mem_cons.mpr ⟨
  s_i2l (show decode (cod 168) 9 = .ok (.i2l, 1) by decide +kernel), List.forall_mem_cons.mpr ⟨
  s_lconst (show decode (cod 168) 10 = .ok (.lconst 0, 1) by decide +kernel) rfl, List.forall_mem_cons.mpr ⟨
  s_lconst (show decode (cod 168) 11 = .ok (.lconst 1, 1) by decide +kernel) rfl, List.forall_mem_cons.mpr ⟨
  s_invS (show decode (cod 168) 12 = .ok (.invokestatic 100, 3) by decide +kernel) rfl cld_168_130 wd_641 wd_642, List.forall_mem_cons.mpr ⟨
  s_ifeq (show decode (cod 168) 15 = .ok (.ifCond .eq 12, 3) by decide +kernel) (by decide), List.forall_mem_cons.mpr ⟨
  s_iload_n (k := 3) (show decode (cod 168) 18 = .ok (.iload_n 3, 1) by decide +kernel), List.forall_mem_cons.mpr ⟨
  s_iload (k := 4) (show decode (cod 168) 19 = .ok (.iload 4, 2) by decide +kernel), List.forall_mem_cons.mpr ⟨
  s_invS (show decode (cod 168) 21 = .ok (.invokestatic 230, 3) by decide +kernel) rfl cld_168_169 wd_755 wd_756, List.forall_mem_cons.mpr ⟨
  s_ifne (show decode (cod 168) 24 = .ok (.ifCond .ne 7, 3) by decide +kernel) (by decide), List.forall_mem_cons.mpr ⟨
  s_ldc2 (show decode (cod 168) 27 = .ok (.ldc2_w 217, 3) by decide +kernel) wd_746, List.forall_mem_cons.mpr ⟨
  s_ret (show decode (cod 168) 30 = .ok (.lreturn, 1) by decide +kernel) rJ_ok (fun h => by cases h), List.forall_mem_cons.mpr ⟨
  s_aload_n (k := 0) (show decode (cod 168) 31 = .ok (.aload_n 0, 1) by decide +kernel), List.forall_mem_cons.mpr ⟨
  s_iload_n (k := 1) (show decode (cod 168) 32 = .ok (.iload_n 1, 1) by decide +kernel), List.forall_mem_cons.mpr ⟨
  s_iload_n (k := 2) (show decode (cod 168) 33 = .ok (.iload_n 2, 1) by decide +kernel), List.forall_mem_cons.mpr ⟨
  s_invK rfl (rcv_virt (show decode (cod 168) 34 = .ok (.invokevirtual 209, 3) by decide +kernel) cld_168_152 ⟨11, _, _, rfl, by decide, rfl⟩ wd_691 wd_692 wd_693), List.forall_mem_cons.mpr ⟨
  s_istore (k := 5) (show decode (cod 168) 37 = .ok (.istore 5, 2) by decide +kernel), List.forall_mem_cons.mpr ⟨
  s_iload (k := 5) (show decode (cod 168) 39 = .ok (.iload 5, 2) by decide +kernel), List.forall_mem_cons.mpr ⟨
  s_ifeq (show decode (cod 168) 41 = .ok (.ifCond .eq 9, 3) by decide +kernel) (by decide), List.forall_mem_cons.mpr ⟨
  s_iload (k := 5) (show decode (cod 168) 44 = .ok (.iload 5, 2) by decide +kernel), List.forall_mem_cons.mpr ⟨
  s_i2l (show decode (cod 168) 46 = .ok (.i2l, 1) by decide +kernel), List.forall_mem_cons.mpr ⟨
  s_goto (show decode (cod 168) 47 = .ok (.goto 12, 3) by decide +kernel) (by decide), List.forall_mem_cons.mpr ⟨
  s_aload_n (k := 0) (show decode (cod 168) 50 = .ok (.aload_n 0, 1) by decide +kernel), List.forall_mem_cons.mpr ⟨
  s_iload_n (k := 1) (show decode (cod 168) 51 = .ok (.iload_n 1, 1) by decide +kernel), List.forall_mem_cons.mpr ⟨
  s_iload_n (k := 2) (show decode (cod 168) 52 = .ok (.iload_n 2, 1) by decide +kernel), List.forall_mem_cons.mpr ⟨
  s_iload_n (k := 3) (show decode (cod 168) 53 = .ok (.iload_n 3, 1) by decide +kernel), List.forall_mem_cons.mpr ⟨
  s_iload (k := 4) (show decode (cod 168) 54 = .ok (.iload 4, 2) by decide +kernel), List.forall_mem_cons.mpr ⟨
  s_invK rfl (rcv_virt (show decode (cod 168) 56 = .ok (.invokevirtual 233, 3) by decide +kernel) cld_168_170 ⟨11, _, _, rfl, by decide, rfl⟩ wd_758 wd_759 wd_760), List.forall_mem_cons.mpr ⟨
  s_ret (show decode (cod 168) 59 = .ok (.lreturn, 1) by decide +kernel) rJ_ok (fun h => by cases h), fun _ h => by cases h⟩⟩⟩⟩⟩⟩⟩⟩⟩⟩⟩⟩⟩⟩⟩⟩⟩⟩⟩⟩⟩⟩⟩⟩⟩⟩⟩⟩⟩⟩⟩⟩⟩
set_option maxRecDepth 100000 in
theorem si168 (X : CX) (l : Launch) : ∀ q ∈ pt168, SI X l 168 q.1 q.2 :=  si168_0 X l
