set_option maxRecDepth 100000 in
set_option maxHeartbeats 4000000 in
theorem si130_0 (X : CX) (l : Launch) : ∀ q ∈ ([(0, iP 1 (fJld 0)), (1, iP 2 (fJld 2)), (2, iP 3 fLcmp), (3, iB 6 17 (b1 (fun x => decide (x < 0)))), (6, iP 7 (fJld 0)), (7, iP 9 (fJld 4)), (9, iP 10 fLcmp), (10, iB 13 17 (b1 (fun x => decide (0 < x)))), (13, iP 14 (fK (.inl 1))), (14, iP 18 fGo), (17, iP 18 (fK (.inl 0))), (18, iRet rZ)] : List (Nat × AS)), SI X l 130 q.1 q.2 := List.forall_mem_cons.mpr ⟨
  s_lload_n (k := 0) (show decode (cod 130) 0 = .ok (.lload_n 0, 1) by decide +kernel), List.forall_mem_cons.mpr ⟨
  s_lload_n (k := 2) (show decode (cod 130) 1 = .ok (.lload_n 2, 1) by decide +kernel), List.forall_mem_cons.mpr ⟨
  s_lcmp (show decode (cod 130) 2 = .ok (.lcmp, 1) by decide +kernel), List.forall_mem_cons.mpr ⟨
  s_iflt (show decode (cod 130) 3 = .ok (.ifCond .lt 14, 3) by decide +kernel) (by decide), List.forall_mem_cons.mpr ⟨
  s_lload_n (k := 0) (show decode (cod 130) 6 = .ok (.lload_n 0, 1) by decide +kernel), List.forall_mem_cons.mpr ⟨
  s_lload (k := 4) (show decode (cod 130) 7 = .ok (.lload 4, 2) by decide +kernel), List.forall_mem_cons.mpr ⟨
  s_lcmp (show decode (cod 130) 9 = .ok (.lcmp, 1) by decide +kernel), List.forall_mem_cons.mpr ⟨
  s_ifgt (show decode (cod 130) 10 = .ok (.ifCond .gt 7, 3) by decide +kernel) (by decide), List.forall_mem_cons.mpr ⟨
  s_iconst (show decode (cod 130) 13 = .ok (.iconst 1, 1) by decide +kernel) rfl, List.forall_mem_cons.mpr ⟨
  s_goto (show decode (cod 130) 14 = .ok (.goto 4, 3) by decide +kernel) (by decide), List.forall_mem_cons.mpr ⟨
  s_iconst (show decode (cod 130) 17 = .ok (.iconst 0, 1) by decide +kernel) rfl, List.forall_mem_cons.mpr ⟨
  s_ret (show decode (cod 130) 18 = .ok (.ireturn, 1) by decide +kernel) rZ_ok (fun _ => rZ_b), fun _ h => by cases h⟩⟩⟩⟩⟩⟩⟩⟩⟩⟩⟩⟩
set_option maxRecDepth 100000 in
theorem si130 (X : CX) (l : Launch) : ∀ q ∈ pt130, SI X l 130 q.1 q.2 :=  si130_0 X l
set_option maxRecDepth 100000 in
set_option maxHeartbeats 4000000 in
theorem si131_0 (X : CX) (l : Launch) : ∀ q ∈ ([(0, iP 1 (fAld 0)), (1, iP 2 (fIld 1)), (2, iCK 5 12 132 2 2 1), (5, iB 8 32 (b1 (fun x => decide (x = 0)))), (8, iP 9 (fIld 2)), (9, iP 10 fI2l), (10, iP 11 (fK (.inr (.inl 1)))), (11, iP 14 (fK (.inr (.inl 99)))), (14, iC 17 130 6 3 1), (17, iB 20 32 (b1 (fun x => decide (x = 0)))), (20, iP 21 (fAld 0)), (21, iP 22 (fIld 1)), (22, iP 23 (fK (.inl 1))), (23, iP 24 (fIld 2)), (24, iP 26 (fK (.inl (-1000000)))), (26, iCK 29 12 133 7 5 1), (29, iP 34 fGo), (32, iP 34 (fK (.inl (-1000001)))), (34, iRet rI)] : List (Nat × AS)), SI X l 131 q.1 q.2 := List.forall_mem_cons.mpr ⟨
  s_aload_n (k := 0) (show decode (cod 131) 0 = .ok (.aload_n 0, 1) by decide +kernel), List.forall_mem_cons.mpr ⟨
  s_iload_n (k := 1) (show decode (cod 131) 1 = .ok (.iload_n 1, 1) by decide +kernel), List.forall_mem_cons.mpr ⟨
  s_invK rfl (rcv_virt (show decode (cod 131) 2 = .ok (.invokevirtual 118, 3) by decide +kernel) cld_131_132 ⟨11, _, _, rfl, by decide, rfl⟩ wd_646 wd_647 wd_648), List.forall_mem_cons.mpr ⟨
  s_ifeq (show decode (cod 131) 5 = .ok (.ifCond .eq 27, 3) by decide +kernel) (by decide), List.forall_mem_cons.mpr ⟨
  s_iload_n (k := 2) (show decode (cod 131) 8 = .ok (.iload_n 2, 1) by decide +kernel), List.forall_mem_cons.mpr ⟨
  s_i2l (show decode (cod 131) 9 = .ok (.i2l, 1) by decide +kernel), List.forall_mem_cons.mpr ⟨
  s_lconst (show decode (cod 131) 10 = .ok (.lconst 1, 1) by decide +kernel) rfl, List.forall_mem_cons.mpr ⟨
  s_ldc2 (show decode (cod 131) 11 = .ok (.ldc2_w 122, 3) by decide +kernel) wd_649, List.forall_mem_cons.mpr ⟨
  s_invS (show decode (cod 131) 14 = .ok (.invokestatic 100, 3) by decide +kernel) rfl cld_131_130 wd_641 wd_642, List.forall_mem_cons.mpr ⟨
  s_ifeq (show decode (cod 131) 17 = .ok (.ifCond .eq 15, 3) by decide +kernel) (by decide), List.forall_mem_cons.mpr ⟨
  s_aload_n (k := 0) (show decode (cod 131) 20 = .ok (.aload_n 0, 1) by decide +kernel), List.forall_mem_cons.mpr ⟨
  s_iload_n (k := 1) (show decode (cod 131) 21 = .ok (.iload_n 1, 1) by decide +kernel), List.forall_mem_cons.mpr ⟨
  s_iconst (show decode (cod 131) 22 = .ok (.iconst 1, 1) by decide +kernel) rfl, List.forall_mem_cons.mpr ⟨
  s_iload_n (k := 2) (show decode (cod 131) 23 = .ok (.iload_n 2, 1) by decide +kernel), List.forall_mem_cons.mpr ⟨
  s_ldc (show decode (cod 131) 24 = .ok (.ldc 124, 2) by decide +kernel) wd_650, List.forall_mem_cons.mpr ⟨
  s_invK rfl (rcv_virt (show decode (cod 131) 26 = .ok (.invokevirtual 125, 3) by decide +kernel) cld_131_133 ⟨11, _, _, rfl, by decide, rfl⟩ wd_652 wd_653 wd_654), List.forall_mem_cons.mpr ⟨
  s_goto (show decode (cod 131) 29 = .ok (.goto 5, 3) by decide +kernel) (by decide), List.forall_mem_cons.mpr ⟨
  s_ldc (show decode (cod 131) 32 = .ok (.ldc 111, 2) by decide +kernel) wd_644, List.forall_mem_cons.mpr ⟨
  s_ret (show decode (cod 131) 34 = .ok (.ireturn, 1) by decide +kernel) rI_ok (fun h => by cases h), fun _ h => by cases h⟩⟩⟩⟩⟩⟩⟩⟩⟩⟩⟩⟩⟩⟩⟩⟩⟩⟩⟩
set_option maxRecDepth 100000 in
theorem si131 (X : CX) (l : Launch) : ∀ q ∈ pt131, SI X l 131 q.1 q.2 :=  si131_0 X l
set_option maxRecDepth 100000 in
set_option maxHeartbeats 4000000 in
theorem si132_0 (X : CX) (l : Launch) : ∀ q ∈ ([(0, iP 1 (fIld 1)), (1, iP 2 fI2l), (2, iP 3 (fK (.inr (.inl 0)))), (3, iP 4 (fAld 0)), (4, iRI 7 (gtI 50)), (7, iP 8 (fK (.inl 1))), (8, iP 9 (f2I (fun x y => x - y))), (9, iP 10 fI2l), (10, iC 13 130 6 3 1), (13, iRet rZ)] : List (Nat × AS)), SI X l 132 q.1 q.2 := List.forall_mem_cons.mpr ⟨
  s_iload_n (k := 1) (show decode (cod 132) 0 = .ok (.iload_n 1, 1) by decide +kernel), List.forall_mem_cons.mpr ⟨
  s_i2l (show decode (cod 132) 1 = .ok (.i2l, 1) by decide +kernel), List.forall_mem_cons.mpr ⟨
  s_lconst (show decode (cod 132) 2 = .ok (.lconst 0, 1) by decide +kernel) rfl, List.forall_mem_cons.mpr ⟨
  s_aload_n (k := 0) (show decode (cod 132) 3 = .ok (.aload_n 0, 1) by decide +kernel), List.forall_mem_cons.mpr ⟨
  s_getI (show decode (cod 132) 4 = .ok (.getfield 97, 3) by decide +kernel) wd_636 (Or.inl rfl) (Or.inl rfl), List.forall_mem_cons.mpr ⟨
  s_iconst (show decode (cod 132) 7 = .ok (.iconst 1, 1) by decide +kernel) rfl, List.forall_mem_cons.mpr ⟨
  s_isub (show decode (cod 132) 8 = .ok (.isub, 1) by decide +kernel), List.forall_mem_cons.mpr ⟨
  s_i2l (show decode (cod 132) 9 = .ok (.i2l, 1) by decide +kernel), List.forall_mem_cons.mpr ⟨
  s_invS (show decode (cod 132) 10 = .ok (.invokestatic 100, 3) by decide +kernel) rfl cld_132_130 wd_641 wd_642, List.forall_mem_cons.mpr ⟨
  s_ret (show decode (cod 132) 13 = .ok (.ireturn, 1) by decide +kernel) rZ_ok (fun _ => rZ_b), fun _ h => by cases h⟩⟩⟩⟩⟩⟩⟩⟩⟩⟩
set_option maxRecDepth 100000 in
theorem si132 (X : CX) (l : Launch) : ∀ q ∈ pt132, SI X l 132 q.1 q.2 :=  si132_0 X l
set_option maxRecDepth 100000 in
set_option maxHeartbeats 4000000 in
theorem si133_0 (X : CX) (l : Launch) : ∀ q ∈ ([(0, iP 1 (fAld 0)), (1, iRR 4 (gtR 51)), (4, iP 5 (fIld 1)), (5, iRI 6 qAI), (6, iP 8 (fK (.inl 24))), (8, iB 11 14 (b2 (fun x y => decide (x ≠ y)))), (11, iP 13 (fK (.inl (-1000003)))), (13, iRet rI), (14, iP 16 (fK (.inl 24))), (16, iP 17 (fIld 1)), (17, iP 18 (f2I (fun x y => x * y))), (18, iP 19 (fAld 0)), (19, iRR 22 (gtR 51)), (22, iP 23 (fIld 1)), (23, iRI 24 qAI), (24, iP 25 (f2I (fun x y => x + y))), (25, iP 27 (fIst 5)), (27, iP 28 (fAld 0)), (28, iRR 31 (gtR 52)), (31, iP 33 (fIld 5)), (33, iP 34 (fIld 2)), (34, iW 35 wAI), (35, iP 36 (fAld 0)), (36, iRR 39 (gtR 53)), (39, iP 41 (fIld 5)), (41, iP 42 (fIld 3)), (42, iW 43 wAI), (43, iP 44 (fAld 0)), (44, iRR 47 (gtR 54)), (47, iP 49 (fIld 5)), (49, iP 51 (fIld 4)), (51, iW 52 wAI), (52, iP 53 (fK (.inl 0))), (53, iP 55 (fIst 6)), (55, iP 57 (fIld 6)), (57, iP 59 (fK (.inl 12))), (59, iB 62 88 (b2 (fun x y => decide (y ≤ x)))), (62, iP 63 (fAld 0)), (63, iRR 66 (gtR 55)), (66, iP 68 (fK (.inl 12)))] : List (Nat × AS)), SI X l 133 q.1 q.2 := List.forall_mem_cons.mpr ⟨
  s_aload_n (k := 0) (show decode (cod 133) 0 = .ok (.aload_n 0, 1) by decide +kernel), List.forall_mem_cons.mpr ⟨
  s_getR (show decode (cod 133) 1 = .ok (.getfield 7, 3) by decide +kernel) wd_607 (Or.inl rfl) rfl, List.forall_mem_cons.mpr ⟨
  s_iload_n (k := 1) (show decode (cod 133) 4 = .ok (.iload_n 1, 1) by decide +kernel), List.forall_mem_cons.mpr ⟨
  s_iaload (show decode (cod 133) 5 = .ok (.iaload, 1) by decide +kernel), List.forall_mem_cons.mpr ⟨
  s_bipush (show decode (cod 133) 6 = .ok (.bipush 24, 2) by decide +kernel) rfl, List.forall_mem_cons.mpr ⟨
  s_icmpne (show decode (cod 133) 8 = .ok (.if_icmp .ne 6, 3) by decide +kernel) (by decide), List.forall_mem_cons.mpr ⟨
  s_ldc (show decode (cod 133) 11 = .ok (.ldc 104, 2) by decide +kernel) wd_637, List.forall_mem_cons.mpr ⟨
  s_ret (show decode (cod 133) 13 = .ok (.ireturn, 1) by decide +kernel) rI_ok (fun h => by cases h), List.forall_mem_cons.mpr ⟨
  s_bipush (show decode (cod 133) 14 = .ok (.bipush 24, 2) by decide +kernel) rfl, List.forall_mem_cons.mpr ⟨
  s_iload_n (k := 1) (show decode (cod 133) 16 = .ok (.iload_n 1, 1) by decide +kernel), List.forall_mem_cons.mpr ⟨
  s_imul (show decode (cod 133) 17 = .ok (.imul, 1) by decide +kernel), List.forall_mem_cons.mpr ⟨
  s_aload_n (k := 0) (show decode (cod 133) 18 = .ok (.aload_n 0, 1) by decide +kernel), List.forall_mem_cons.mpr ⟨
  s_getR (show decode (cod 133) 19 = .ok (.getfield 7, 3) by decide +kernel) wd_607 (Or.inl rfl) rfl, List.forall_mem_cons.mpr ⟨
  s_iload_n (k := 1) (show decode (cod 133) 22 = .ok (.iload_n 1, 1) by decide +kernel), List.forall_mem_cons.mpr ⟨
  s_iaload (show decode (cod 133) 23 = .ok (.iaload, 1) by decide +kernel), List.forall_mem_cons.mpr ⟨
  s_iadd (show decode (cod 133) 24 = .ok (.iadd, 1) by decide +kernel), List.forall_mem_cons.mpr ⟨
  s_istore (k := 5) (show decode (cod 133) 25 = .ok (.istore 5, 2) by decide +kernel), List.forall_mem_cons.mpr ⟨
  s_aload_n (k := 0) (show decode (cod 133) 27 = .ok (.aload_n 0, 1) by decide +kernel), List.forall_mem_cons.mpr ⟨
  s_getR (show decode (cod 133) 28 = .ok (.getfield 13, 3) by decide +kernel) wd_608 (Or.inl rfl) rfl, List.forall_mem_cons.mpr ⟨
  s_iload (k := 5) (show decode (cod 133) 31 = .ok (.iload 5, 2) by decide +kernel), List.forall_mem_cons.mpr ⟨
  s_iload_n (k := 2) (show decode (cod 133) 33 = .ok (.iload_n 2, 1) by decide +kernel), List.forall_mem_cons.mpr ⟨
  s_iastore (show decode (cod 133) 34 = .ok (.iastore, 1) by decide +kernel), List.forall_mem_cons.mpr ⟨
  s_aload_n (k := 0) (show decode (cod 133) 35 = .ok (.aload_n 0, 1) by decide +kernel), List.forall_mem_cons.mpr ⟨
  s_getR (show decode (cod 133) 36 = .ok (.getfield 16, 3) by decide +kernel) wd_609 (Or.inl rfl) rfl, List.forall_mem_cons.mpr ⟨
  s_iload (k := 5) (show decode (cod 133) 39 = .ok (.iload 5, 2) by decide +kernel), List.forall_mem_cons.mpr ⟨
  s_iload_n (k := 3) (show decode (cod 133) 41 = .ok (.iload_n 3, 1) by decide +kernel), List.forall_mem_cons.mpr ⟨
  s_iastore (show decode (cod 133) 42 = .ok (.iastore, 1) by decide +kernel), List.forall_mem_cons.mpr ⟨
  s_aload_n (k := 0) (show decode (cod 133) 43 = .ok (.aload_n 0, 1) by decide +kernel), List.forall_mem_cons.mpr ⟨
  s_getR (show decode (cod 133) 44 = .ok (.getfield 19, 3) by decide +kernel) wd_610 (Or.inl rfl) rfl, List.forall_mem_cons.mpr ⟨
  s_iload (k := 5) (show decode (cod 133) 47 = .ok (.iload 5, 2) by decide +kernel), List.forall_mem_cons.mpr ⟨
  s_iload (k := 4) (show decode (cod 133) 49 = .ok (.iload 4, 2) by decide +kernel), List.forall_mem_cons.mpr ⟨
  s_iastore (show decode (cod 133) 51 = .ok (.iastore, 1) by decide +kernel), List.forall_mem_cons.mpr ⟨
  s_iconst (show decode (cod 133) 52 = .ok (.iconst 0, 1) by decide +kernel) rfl, List.forall_mem_cons.mpr ⟨
  s_istore (k := 6) (show decode (cod 133) 53 = .ok (.istore 6, 2) by decide +kernel), List.forall_mem_cons.mpr ⟨
  s_iload (k := 6) (show decode (cod 133) 55 = .ok (.iload 6, 2) by decide +kernel), List.forall_mem_cons.mpr ⟨
  s_bipush (show decode (cod 133) 57 = .ok (.bipush 12, 2) by decide +kernel) rfl, List.forall_mem_cons.mpr ⟨
  s_icmpge (show decode (cod 133) 59 = .ok (.if_icmp .ge 29, 3) by decide +kernel) (by decide), List.forall_mem_cons.mpr ⟨
  s_aload_n (k := 0) (show decode (cod 133) 62 = .ok (.aload_n 0, 1) by decide +kernel), List.forall_mem_cons.mpr ⟨
  s_getR (show decode (cod 133) 63 = .ok (.getfield 22, 3) by decide +kernel) wd_611 (Or.inl rfl) rfl, List.forall_mem_cons.mpr ⟨
  s_bipush (show decode (cod 133) 66 = .ok (.bipush 12, 2) by decide +kernel) rfl, fun _ h => by cases h⟩⟩⟩⟩⟩⟩⟩⟩⟩⟩⟩⟩⟩⟩⟩⟩⟩⟩⟩⟩⟩⟩⟩⟩⟩⟩⟩⟩⟩⟩⟩⟩⟩⟩⟩⟩⟩⟩⟩⟩
set_option maxRecDepth 100000 in
set_option maxHeartbeats 4000000 in
theorem si133_1 (X : CX) (l : Launch) : ∀ q ∈ ([(68, iP 70 (fIld 5)), (70, iP 71 (f2I (fun x y => x * y))), (71, iP 73 (fIld 6)), (73, iP 74 (f2I (fun x y => x + y))), (74, iP 75 (fAld 0)), (75, iRR 78 (gtR 56)), (78, iP 80 (fIld 6)), (80, iRI 81 qAI), (81, iW 82 wAI), (82, iP 85 (fInc 6 1)), (85, iP 55 fGo), (88, iP 89 (fAld 0)), (89, iRR 92 (gtR 51)), (92, iP 93 (fIld 1)), (93, iP 94 fDup2), (94, iRI 95 qAI), (95, iP 96 (fK (.inl 1))), (96, iP 97 (f2I (fun x y => x + y))), (97, iW 98 wAI), (98, iP 99 (fAld 0)), (99, iP 100 (fK (.inl 0))), (100, iW 103 (ptZ 60)), (103, iP 104 (fAld 0)), (104, iRR 107 (gtR 51)), (107, iP 108 (fIld 1)), (108, iRI 109 qAI), (109, iP 110 (fK (.inl 1))), (110, iP 111 (f2I (fun x y => x - y))), (111, iRet rI)] : List (Nat × AS)), SI X l 133 q.1 q.2 := List.forall_mem_cons.mpr ⟨
  s_iload (k := 5) (show decode (cod 133) 68 = .ok (.iload 5, 2) by decide +kernel), List.forall_mem_cons.mpr ⟨
  s_imul (show decode (cod 133) 70 = .ok (.imul, 1) by decide +kernel), List.forall_mem_cons.mpr ⟨
  s_iload (k := 6) (show decode (cod 133) 71 = .ok (.iload 6, 2) by decide +kernel), List.forall_mem_cons.mpr ⟨
  s_iadd (show decode (cod 133) 73 = .ok (.iadd, 1) by decide +kernel), List.forall_mem_cons.mpr ⟨
  s_aload_n (k := 0) (show decode (cod 133) 74 = .ok (.aload_n 0, 1) by decide +kernel), List.forall_mem_cons.mpr ⟨
  s_getR (show decode (cod 133) 75 = .ok (.getfield 25, 3) by decide +kernel) wd_612 (Or.inl rfl) rfl, List.forall_mem_cons.mpr ⟨
  s_iload (k := 6) (show decode (cod 133) 78 = .ok (.iload 6, 2) by decide +kernel), List.forall_mem_cons.mpr ⟨
  s_iaload (show decode (cod 133) 80 = .ok (.iaload, 1) by decide +kernel), List.forall_mem_cons.mpr ⟨
  s_iastore (show decode (cod 133) 81 = .ok (.iastore, 1) by decide +kernel), List.forall_mem_cons.mpr ⟨
  s_iinc (show decode (cod 133) 82 = .ok (.iinc 6 1, 3) by decide +kernel) rfl, List.forall_mem_cons.mpr ⟨
  s_goto (show decode (cod 133) 85 = .ok (.goto (-30), 3) by decide +kernel) (by decide), List.forall_mem_cons.mpr ⟨
  s_aload_n (k := 0) (show decode (cod 133) 88 = .ok (.aload_n 0, 1) by decide +kernel), List.forall_mem_cons.mpr ⟨
  s_getR (show decode (cod 133) 89 = .ok (.getfield 7, 3) by decide +kernel) wd_607 (Or.inl rfl) rfl, List.forall_mem_cons.mpr ⟨
  s_iload_n (k := 1) (show decode (cod 133) 92 = .ok (.iload_n 1, 1) by decide +kernel), List.forall_mem_cons.mpr ⟨
  s_dup2 (show decode (cod 133) 93 = .ok (.dup2, 1) by decide +kernel), List.forall_mem_cons.mpr ⟨
  s_iaload (show decode (cod 133) 94 = .ok (.iaload, 1) by decide +kernel), List.forall_mem_cons.mpr ⟨
  s_iconst (show decode (cod 133) 95 = .ok (.iconst 1, 1) by decide +kernel) rfl, List.forall_mem_cons.mpr ⟨
  s_iadd (show decode (cod 133) 96 = .ok (.iadd, 1) by decide +kernel), List.forall_mem_cons.mpr ⟨
  s_iastore (show decode (cod 133) 97 = .ok (.iastore, 1) by decide +kernel), List.forall_mem_cons.mpr ⟨
  s_aload_n (k := 0) (show decode (cod 133) 98 = .ok (.aload_n 0, 1) by decide +kernel), List.forall_mem_cons.mpr ⟨
  s_iconst (show decode (cod 133) 99 = .ok (.iconst 0, 1) by decide +kernel) rfl, List.forall_mem_cons.mpr ⟨
  s_putZ (show decode (cod 133) 100 = .ok (.putfield 105, 3) by decide +kernel) wd_638 (Or.inl rfl) (Or.inl rfl) rfl, List.forall_mem_cons.mpr ⟨
  s_aload_n (k := 0) (show decode (cod 133) 103 = .ok (.aload_n 0, 1) by decide +kernel), List.forall_mem_cons.mpr ⟨
  s_getR (show decode (cod 133) 104 = .ok (.getfield 7, 3) by decide +kernel) wd_607 (Or.inl rfl) rfl, List.forall_mem_cons.mpr ⟨
  s_iload_n (k := 1) (show decode (cod 133) 107 = .ok (.iload_n 1, 1) by decide +kernel), List.forall_mem_cons.mpr ⟨
  s_iaload (show decode (cod 133) 108 = .ok (.iaload, 1) by decide +kernel), List.forall_mem_cons.mpr ⟨
  s_iconst (show decode (cod 133) 109 = .ok (.iconst 1, 1) by decide +kernel) rfl, List.forall_mem_cons.mpr ⟨
  s_isub (show decode (cod 133) 110 = .ok (.isub, 1) by decide +kernel), List.forall_mem_cons.mpr ⟨
  s_ret (show decode (cod 133) 111 = .ok (.ireturn, 1) by decide +kernel) rI_ok (fun h => by cases h), fun _ h => by cases h⟩⟩⟩⟩⟩⟩⟩⟩⟩⟩⟩⟩⟩⟩⟩⟩⟩⟩⟩⟩⟩⟩⟩⟩⟩⟩⟩⟩⟩
set_option maxRecDepth 100000 in
theorem si133 (X : CX) (l : Launch) : ∀ q ∈ pt133, SI X l 133 q.1 q.2 := (List.forall_mem_append (l₁ := _) (l₂ := _)).mpr ⟨si133_0 X l, si133_1 X l⟩
set_option maxRecDepth 100000 in
set_option maxHeartbeats 4000000 in
theorem si134_0 (X : CX) (l : Launch) : ∀ q ∈ ([(0, iP 1 (fAld 0)), (1, iP 2 (fIld 1)), (2, iCK 5 12 132 2 2 1), (5, iB 8 11 (b1 (fun x => decide (x ≠ 0)))), (8, iP 10 (fK (.inl (-1000001)))), (10, iRet rI), (11, iP 12 (fAld 0)), (12, iP 13 (fIld 1)), (13, iP 14 (fAld 0)), (14, iRR 17 (gtR 51)), (17, iP 18 (fIld 1)), (18, iRI 19 qAI), (19, iCK 22 12 135 5 3 0), (22, iP 23 (fAld 0)), (23, iRI 26 (gtI 66)), (26, iP 27 (fK (.inl 3))), (27, iB 30 35 (b2 (fun x y => decide (x ≠ y)))), (30, iP 32 (fK (.inl (-1000002)))), (32, iP 44 fGo), (35, iP 36 (fAld 0)), (36, iP 37 (fIld 1)), (37, iP 38 (fK (.inl 3))), (38, iP 39 (fK (.inl 0))), (39, iP 41 (fK (.inl (-1000000)))), (41, iCK 44 12 133 7 5 1), (44, iRet rI)] : List (Nat × AS)), SI X l 134 q.1 q.2 := List.forall_mem_cons.mpr ⟨
  s_aload_n (k := 0) (show decode (cod 134) 0 = .ok (.aload_n 0, 1) by decide +kernel), List.forall_mem_cons.mpr ⟨
  s_iload_n (k := 1) (show decode (cod 134) 1 = .ok (.iload_n 1, 1) by decide +kernel), List.forall_mem_cons.mpr ⟨
  s_invK rfl (rcv_virt (show decode (cod 134) 2 = .ok (.invokevirtual 118, 3) by decide +kernel) cld_134_132 ⟨11, _, _, rfl, by decide, rfl⟩ wd_646 wd_647 wd_648), List.forall_mem_cons.mpr ⟨
  s_ifne (show decode (cod 134) 5 = .ok (.ifCond .ne 6, 3) by decide +kernel) (by decide), List.forall_mem_cons.mpr ⟨
  s_ldc (show decode (cod 134) 8 = .ok (.ldc 111, 2) by decide +kernel) wd_644, List.forall_mem_cons.mpr ⟨
  s_ret (show decode (cod 134) 10 = .ok (.ireturn, 1) by decide +kernel) rI_ok (fun h => by cases h), List.forall_mem_cons.mpr ⟨
  s_aload_n (k := 0) (show decode (cod 134) 11 = .ok (.aload_n 0, 1) by decide +kernel), List.forall_mem_cons.mpr ⟨
  s_iload_n (k := 1) (show decode (cod 134) 12 = .ok (.iload_n 1, 1) by decide +kernel), List.forall_mem_cons.mpr ⟨
  s_aload_n (k := 0) (show decode (cod 134) 13 = .ok (.aload_n 0, 1) by decide +kernel), List.forall_mem_cons.mpr ⟨
  s_getR (show decode (cod 134) 14 = .ok (.getfield 7, 3) by decide +kernel) wd_607 (Or.inl rfl) rfl, List.forall_mem_cons.mpr ⟨
  s_iload_n (k := 1) (show decode (cod 134) 17 = .ok (.iload_n 1, 1) by decide +kernel), List.forall_mem_cons.mpr ⟨
  s_iaload (show decode (cod 134) 18 = .ok (.iaload, 1) by decide +kernel), List.forall_mem_cons.mpr ⟨
  s_invK rfl (rcv_virt (show decode (cod 134) 19 = .ok (.invokevirtual 129, 3) by decide +kernel) cld_134_135 ⟨11, _, _, rfl, by decide, rfl⟩ wd_656 wd_657 wd_658), List.forall_mem_cons.mpr ⟨
  s_aload_n (k := 0) (show decode (cod 134) 22 = .ok (.aload_n 0, 1) by decide +kernel), List.forall_mem_cons.mpr ⟨
  s_getI (show decode (cod 134) 23 = .ok (.getfield 115, 3) by decide +kernel) wd_659 (Or.inl rfl) (Or.inl rfl), List.forall_mem_cons.mpr ⟨
  s_iconst (show decode (cod 134) 26 = .ok (.iconst 3, 1) by decide +kernel) rfl, List.forall_mem_cons.mpr ⟨
  s_icmpne (show decode (cod 134) 27 = .ok (.if_icmp .ne 8, 3) by decide +kernel) (by decide), List.forall_mem_cons.mpr ⟨
  s_ldc (show decode (cod 134) 30 = .ok (.ldc 133, 2) by decide +kernel) wd_660, List.forall_mem_cons.mpr ⟨
  s_goto (show decode (cod 134) 32 = .ok (.goto 12, 3) by decide +kernel) (by decide), List.forall_mem_cons.mpr ⟨
  s_aload_n (k := 0) (show decode (cod 134) 35 = .ok (.aload_n 0, 1) by decide +kernel), List.forall_mem_cons.mpr ⟨
  s_iload_n (k := 1) (show decode (cod 134) 36 = .ok (.iload_n 1, 1) by decide +kernel), List.forall_mem_cons.mpr ⟨
  s_iconst (show decode (cod 134) 37 = .ok (.iconst 3, 1) by decide +kernel) rfl, List.forall_mem_cons.mpr ⟨
  s_iconst (show decode (cod 134) 38 = .ok (.iconst 0, 1) by decide +kernel) rfl, List.forall_mem_cons.mpr ⟨
  s_ldc (show decode (cod 134) 39 = .ok (.ldc 124, 2) by decide +kernel) wd_650, List.forall_mem_cons.mpr ⟨
  s_invK rfl (rcv_virt (show decode (cod 134) 41 = .ok (.invokevirtual 125, 3) by decide +kernel) cld_134_133 ⟨11, _, _, rfl, by decide, rfl⟩ wd_652 wd_653 wd_654), List.forall_mem_cons.mpr ⟨
  s_ret (show decode (cod 134) 44 = .ok (.ireturn, 1) by decide +kernel) rI_ok (fun h => by cases h), fun _ h => by cases h⟩⟩⟩⟩⟩⟩⟩⟩⟩⟩⟩⟩⟩⟩⟩⟩⟩⟩⟩⟩⟩⟩⟩⟩⟩⟩
set_option maxRecDepth 100000 in
theorem si134 (X : CX) (l : Launch) : ∀ q ∈ pt134, SI X l 134 q.1 q.2 :=  si134_0 X l
set_option maxRecDepth 100000 in
set_option maxHeartbeats 4000000 in
theorem si135_0 (X : CX) (l : Launch) : ∀ q ∈ ([(0, iP 1 (fAld 0)), (1, iP 2 (fK (.inl 0))), (2, iW 5 (ptI 63)), (5, iP 6 (fAld 0)), (6, iP 7 (fK (.inl 0))), (7, iW 10 (ptI 66)), (10, iP 11 (fK (.inl 0))), (11, iP 12 (fIst 3)), (12, iP 13 (fIld 3)), (13, iP 14 (fIld 2)), (14, iB 17 178 (b2 (fun x y => decide (y ≤ x)))), (17, iP 18 (fAld 0)), (18, iRR 21 (gtR 52)), (21, iP 23 (fK (.inl 24))), (23, iP 24 (fIld 1)), (24, iP 25 (f2I (fun x y => x * y))), (25, iP 26 (fIld 3)), (26, iP 27 (f2I (fun x y => x + y))), (27, iRI 28 qAI), (28, iP 30 (fIst 4)), (30, iP 32 (fIld 4)), (32, iP 33 (fK (.inl 3))), (33, iB 36 42 (b2 (fun x y => decide (x = y)))), (36, iP 38 (fIld 4)), (38, iP 39 (fK (.inl 5))), (39, iB 42 105 (b2 (fun x y => decide (x ≠ y)))), (42, iP 43 (fAld 0)), (43, iRR 46 (gtR 64)), (46, iP 47 (fAld 0)), (47, iRI 50 (gtI 63)), (50, iP 52 (fIld 4)), (52, iP 53 (fK (.inl 3))), (53, iB 56 60 (b2 (fun x y => decide (x ≠ y)))), (56, iP 57 (fK (.inl 0))), (57, iP 61 fGo), (60, iP 61 (fK (.inl 1))), (61, iW 62 wAI), (62, iP 63 (fAld 0)), (63, iRR 66 (gtR 65)), (66, iP 67 (fAld 0))] : List (Nat × AS)), SI X l 135 q.1 q.2 := List.forall_mem_cons.mpr ⟨
  s_aload_n (k := 0) (show decode (cod 135) 0 = .ok (.aload_n 0, 1) by decide +kernel), List.forall_mem_cons.mpr ⟨
  s_iconst (show decode (cod 135) 1 = .ok (.iconst 0, 1) by decide +kernel) rfl, List.forall_mem_cons.mpr ⟨
  s_putI (show decode (cod 135) 2 = .ok (.putfield 112, 3) by decide +kernel) wd_661 (Or.inl rfl) (Or.inl rfl) rfl, List.forall_mem_cons.mpr ⟨
  s_aload_n (k := 0) (show decode (cod 135) 5 = .ok (.aload_n 0, 1) by decide +kernel), List.forall_mem_cons.mpr ⟨
  s_iconst (show decode (cod 135) 6 = .ok (.iconst 0, 1) by decide +kernel) rfl, List.forall_mem_cons.mpr ⟨
  s_putI (show decode (cod 135) 7 = .ok (.putfield 115, 3) by decide +kernel) wd_659 (Or.inl rfl) (Or.inl rfl) rfl, List.forall_mem_cons.mpr ⟨
  s_iconst (show decode (cod 135) 10 = .ok (.iconst 0, 1) by decide +kernel) rfl, List.forall_mem_cons.mpr ⟨
  s_istore_n (k := 3) (show decode (cod 135) 11 = .ok (.istore_n 3, 1) by decide +kernel), List.forall_mem_cons.mpr ⟨
  s_iload_n (k := 3) (show decode (cod 135) 12 = .ok (.iload_n 3, 1) by decide +kernel), List.forall_mem_cons.mpr ⟨
  s_iload_n (k := 2) (show decode (cod 135) 13 = .ok (.iload_n 2, 1) by decide +kernel), List.forall_mem_cons.mpr ⟨
  s_icmpge (show decode (cod 135) 14 = .ok (.if_icmp .ge 164, 3) by decide +kernel) (by decide), List.forall_mem_cons.mpr ⟨
  s_aload_n (k := 0) (show decode (cod 135) 17 = .ok (.aload_n 0, 1) by decide +kernel), List.forall_mem_cons.mpr ⟨
  s_getR (show decode (cod 135) 18 = .ok (.getfield 13, 3) by decide +kernel) wd_608 (Or.inl rfl) rfl, List.forall_mem_cons.mpr ⟨
  s_bipush (show decode (cod 135) 21 = .ok (.bipush 24, 2) by decide +kernel) rfl, List.forall_mem_cons.mpr ⟨
  s_iload_n (k := 1) (show decode (cod 135) 23 = .ok (.iload_n 1, 1) by decide +kernel), List.forall_mem_cons.mpr ⟨
  s_imul (show decode (cod 135) 24 = .ok (.imul, 1) by decide +kernel), List.forall_mem_cons.mpr ⟨
  s_iload_n (k := 3) (show decode (cod 135) 25 = .ok (.iload_n 3, 1) by decide +kernel), List.forall_mem_cons.mpr ⟨
  s_iadd (show decode (cod 135) 26 = .ok (.iadd, 1) by decide +kernel), List.forall_mem_cons.mpr ⟨
  s_iaload (show decode (cod 135) 27 = .ok (.iaload, 1) by decide +kernel), List.forall_mem_cons.mpr ⟨
  s_istore (k := 4) (show decode (cod 135) 28 = .ok (.istore 4, 2) by decide +kernel), List.forall_mem_cons.mpr ⟨
  s_iload (k := 4) (show decode (cod 135) 30 = .ok (.iload 4, 2) by decide +kernel), List.forall_mem_cons.mpr ⟨
  s_iconst (show decode (cod 135) 32 = .ok (.iconst 3, 1) by decide +kernel) rfl, List.forall_mem_cons.mpr ⟨
  s_icmpeq (show decode (cod 135) 33 = .ok (.if_icmp .eq 9, 3) by decide +kernel) (by decide), List.forall_mem_cons.mpr ⟨
  s_iload (k := 4) (show decode (cod 135) 36 = .ok (.iload 4, 2) by decide +kernel), List.forall_mem_cons.mpr ⟨
  s_iconst (show decode (cod 135) 38 = .ok (.iconst 5, 1) by decide +kernel) rfl, List.forall_mem_cons.mpr ⟨
  s_icmpne (show decode (cod 135) 39 = .ok (.if_icmp .ne 66, 3) by decide +kernel) (by decide), List.forall_mem_cons.mpr ⟨
  s_aload_n (k := 0) (show decode (cod 135) 42 = .ok (.aload_n 0, 1) by decide +kernel), List.forall_mem_cons.mpr ⟨
  s_getR (show decode (cod 135) 43 = .ok (.getfield 41, 3) by decide +kernel) wd_617 (Or.inl rfl) rfl, List.forall_mem_cons.mpr ⟨
  s_aload_n (k := 0) (show decode (cod 135) 46 = .ok (.aload_n 0, 1) by decide +kernel), List.forall_mem_cons.mpr ⟨
  s_getI (show decode (cod 135) 47 = .ok (.getfield 112, 3) by decide +kernel) wd_661 (Or.inl rfl) (Or.inl rfl), List.forall_mem_cons.mpr ⟨
  s_iload (k := 4) (show decode (cod 135) 50 = .ok (.iload 4, 2) by decide +kernel), List.forall_mem_cons.mpr ⟨
  s_iconst (show decode (cod 135) 52 = .ok (.iconst 3, 1) by decide +kernel) rfl, List.forall_mem_cons.mpr ⟨
  s_icmpne (show decode (cod 135) 53 = .ok (.if_icmp .ne 7, 3) by decide +kernel) (by decide), List.forall_mem_cons.mpr ⟨
  s_iconst (show decode (cod 135) 56 = .ok (.iconst 0, 1) by decide +kernel) rfl, List.forall_mem_cons.mpr ⟨
  s_goto (show decode (cod 135) 57 = .ok (.goto 4, 3) by decide +kernel) (by decide), List.forall_mem_cons.mpr ⟨
  s_iconst (show decode (cod 135) 60 = .ok (.iconst 1, 1) by decide +kernel) rfl, List.forall_mem_cons.mpr ⟨
  s_iastore (show decode (cod 135) 61 = .ok (.iastore, 1) by decide +kernel), List.forall_mem_cons.mpr ⟨
  s_aload_n (k := 0) (show decode (cod 135) 62 = .ok (.aload_n 0, 1) by decide +kernel), List.forall_mem_cons.mpr ⟨
  s_getR (show decode (cod 135) 63 = .ok (.getfield 44, 3) by decide +kernel) wd_618 (Or.inl rfl) rfl, List.forall_mem_cons.mpr ⟨
  s_aload_n (k := 0) (show decode (cod 135) 66 = .ok (.aload_n 0, 1) by decide +kernel), fun _ h => by cases h⟩⟩⟩⟩⟩⟩⟩⟩⟩⟩⟩⟩⟩⟩⟩⟩⟩⟩⟩⟩⟩⟩⟩⟩⟩⟩⟩⟩⟩⟩⟩⟩⟩⟩⟩⟩⟩⟩⟩⟩
set_option maxRecDepth 100000 in
set_option maxHeartbeats 4000000 in
theorem si135_1 (X : CX) (l : Launch) : ∀ q ∈ ([(67, iRI 70 (gtI 63)), (70, iP 71 (fIld 3)), (71, iW 72 wAI), (72, iP 73 (fAld 0)), (73, iP 74 fDup), (74, iRI 77 (gtI 63)), (77, iP 78 (fK (.inl 1))), (78, iP 79 (f2I (fun x y => x + y))), (79, iW 82 (ptI 63)), (82, iP 83 (fAld 0)), (83, iP 84 fDup), (84, iRI 87 (gtI 66)), (87, iP 89 (fIld 4)), (89, iP 90 (fK (.inl 3))), (90, iB 93 97 (b2 (fun x y => decide (x ≠ y)))), (93, iP 94 (fK (.inl 1))), (94, iP 98 fGo), (97, iP 98 (fK (.inl 0))), (98, iP 99 (f2I (fun x y => x + y))), (99, iW 102 (ptI 66)), (102, iP 172 fGo), (105, iP 107 (fIld 4)), (107, iP 109 (fK (.inl 7))), (109, iB 112 127 (b2 (fun x y => decide (x ≠ y)))), (112, iP 113 (fAld 0)), (113, iRR 116 (gtR 64)), (116, iP 117 (fAld 0)), (117, iRI 120 (gtI 63)), (120, iP 121 (fK (.inl 1))), (121, iP 122 (f2I (fun x y => x - y))), (122, iP 123 (fK (.inl 2))), (123, iW 124 wAI), (124, iP 172 fGo), (127, iP 129 (fIld 4)), (129, iP 131 (fK (.inl 6))), (131, iB 134 141 (b2 (fun x y => decide (x = y)))), (134, iP 136 (fIld 4)), (136, iP 138 (fK (.inl 8))), (138, iB 141 172 (b2 (fun x y => decide (x ≠ y)))), (141, iP 142 (fAld 0))] : List (Nat × AS)), SI X l 135 q.1 q.2 := List.forall_mem_cons.mpr ⟨
  s_getI (show decode (cod 135) 67 = .ok (.getfield 112, 3) by decide +kernel) wd_661 (Or.inl rfl) (Or.inl rfl), List.forall_mem_cons.mpr ⟨
  s_iload_n (k := 3) (show decode (cod 135) 70 = .ok (.iload_n 3, 1) by decide +kernel), List.forall_mem_cons.mpr ⟨
  s_iastore (show decode (cod 135) 71 = .ok (.iastore, 1) by decide +kernel), List.forall_mem_cons.mpr ⟨
  s_aload_n (k := 0) (show decode (cod 135) 72 = .ok (.aload_n 0, 1) by decide +kernel), List.forall_mem_cons.mpr ⟨
  s_dup (show decode (cod 135) 73 = .ok (.dup, 1) by decide +kernel), List.forall_mem_cons.mpr ⟨
  s_getI (show decode (cod 135) 74 = .ok (.getfield 112, 3) by decide +kernel) wd_661 (Or.inl rfl) (Or.inl rfl), List.forall_mem_cons.mpr ⟨
  s_iconst (show decode (cod 135) 77 = .ok (.iconst 1, 1) by decide +kernel) rfl, List.forall_mem_cons.mpr ⟨
  s_iadd (show decode (cod 135) 78 = .ok (.iadd, 1) by decide +kernel), List.forall_mem_cons.mpr ⟨
  s_putI (show decode (cod 135) 79 = .ok (.putfield 112, 3) by decide +kernel) wd_661 (Or.inl rfl) (Or.inl rfl) rfl, List.forall_mem_cons.mpr ⟨
  s_aload_n (k := 0) (show decode (cod 135) 82 = .ok (.aload_n 0, 1) by decide +kernel), List.forall_mem_cons.mpr ⟨
  s_dup (show decode (cod 135) 83 = .ok (.dup, 1) by decide +kernel), List.forall_mem_cons.mpr ⟨
  s_getI (show decode (cod 135) 84 = .ok (.getfield 115, 3) by decide +kernel) wd_659 (Or.inl rfl) (Or.inl rfl), List.forall_mem_cons.mpr ⟨
  s_iload (k := 4) (show decode (cod 135) 87 = .ok (.iload 4, 2) by decide +kernel), List.forall_mem_cons.mpr ⟨
  s_iconst (show decode (cod 135) 89 = .ok (.iconst 3, 1) by decide +kernel) rfl, List.forall_mem_cons.mpr ⟨
  s_icmpne (show decode (cod 135) 90 = .ok (.if_icmp .ne 7, 3) by decide +kernel) (by decide), List.forall_mem_cons.mpr ⟨
  s_iconst (show decode (cod 135) 93 = .ok (.iconst 1, 1) by decide +kernel) rfl, List.forall_mem_cons.mpr ⟨
  s_goto (show decode (cod 135) 94 = .ok (.goto 4, 3) by decide +kernel) (by decide), List.forall_mem_cons.mpr ⟨
  s_iconst (show decode (cod 135) 97 = .ok (.iconst 0, 1) by decide +kernel) rfl, List.forall_mem_cons.mpr ⟨
  s_iadd (show decode (cod 135) 98 = .ok (.iadd, 1) by decide +kernel), List.forall_mem_cons.mpr ⟨
  s_putI (show decode (cod 135) 99 = .ok (.putfield 115, 3) by decide +kernel) wd_659 (Or.inl rfl) (Or.inl rfl) rfl, List.forall_mem_cons.mpr ⟨
  s_goto (show decode (cod 135) 102 = .ok (.goto 70, 3) by decide +kernel) (by decide), List.forall_mem_cons.mpr ⟨
  s_iload (k := 4) (show decode (cod 135) 105 = .ok (.iload 4, 2) by decide +kernel), List.forall_mem_cons.mpr ⟨
  s_bipush (show decode (cod 135) 107 = .ok (.bipush 7, 2) by decide +kernel) rfl, List.forall_mem_cons.mpr ⟨
  s_icmpne (show decode (cod 135) 109 = .ok (.if_icmp .ne 18, 3) by decide +kernel) (by decide), List.forall_mem_cons.mpr ⟨
  s_aload_n (k := 0) (show decode (cod 135) 112 = .ok (.aload_n 0, 1) by decide +kernel), List.forall_mem_cons.mpr ⟨
  s_getR (show decode (cod 135) 113 = .ok (.getfield 41, 3) by decide +kernel) wd_617 (Or.inl rfl) rfl, List.forall_mem_cons.mpr ⟨
  s_aload_n (k := 0) (show decode (cod 135) 116 = .ok (.aload_n 0, 1) by decide +kernel), List.forall_mem_cons.mpr ⟨
  s_getI (show decode (cod 135) 117 = .ok (.getfield 112, 3) by decide +kernel) wd_661 (Or.inl rfl) (Or.inl rfl), List.forall_mem_cons.mpr ⟨
  s_iconst (show decode (cod 135) 120 = .ok (.iconst 1, 1) by decide +kernel) rfl, List.forall_mem_cons.mpr ⟨
  s_isub (show decode (cod 135) 121 = .ok (.isub, 1) by decide +kernel), List.forall_mem_cons.mpr ⟨
  s_iconst (show decode (cod 135) 122 = .ok (.iconst 2, 1) by decide +kernel) rfl, List.forall_mem_cons.mpr ⟨
  s_iastore (show decode (cod 135) 123 = .ok (.iastore, 1) by decide +kernel), List.forall_mem_cons.mpr ⟨
  s_goto (show decode (cod 135) 124 = .ok (.goto 48, 3) by decide +kernel) (by decide), List.forall_mem_cons.mpr ⟨
  s_iload (k := 4) (show decode (cod 135) 127 = .ok (.iload 4, 2) by decide +kernel), List.forall_mem_cons.mpr ⟨
  s_bipush (show decode (cod 135) 129 = .ok (.bipush 6, 2) by decide +kernel) rfl, List.forall_mem_cons.mpr ⟨
  s_icmpeq (show decode (cod 135) 131 = .ok (.if_icmp .eq 10, 3) by decide +kernel) (by decide), List.forall_mem_cons.mpr ⟨
  s_iload (k := 4) (show decode (cod 135) 134 = .ok (.iload 4, 2) by decide +kernel), List.forall_mem_cons.mpr ⟨
  s_bipush (show decode (cod 135) 136 = .ok (.bipush 8, 2) by decide +kernel) rfl, List.forall_mem_cons.mpr ⟨
  s_icmpne (show decode (cod 135) 138 = .ok (.if_icmp .ne 34, 3) by decide +kernel) (by decide), List.forall_mem_cons.mpr ⟨
  s_aload_n (k := 0) (show decode (cod 135) 141 = .ok (.aload_n 0, 1) by decide +kernel), fun _ h => by cases h⟩⟩⟩⟩⟩⟩⟩⟩⟩⟩⟩⟩⟩⟩⟩⟩⟩⟩⟩⟩⟩⟩⟩⟩⟩⟩⟩⟩⟩⟩⟩⟩⟩⟩⟩⟩⟩⟩⟩⟩
set_option maxRecDepth 100000 in
set_option maxHeartbeats 4000000 in
theorem si135_2 (X : CX) (l : Launch) : ∀ q ∈ ([(142, iP 143 fDup), (143, iRI 146 (gtI 63)), (146, iP 147 (fK (.inl 1))), (147, iP 148 (f2I (fun x y => x - y))), (148, iW 151 (ptI 63)), (151, iP 152 (fAld 0)), (152, iP 153 fDup), (153, iRI 156 (gtI 66)), (156, iP 158 (fIld 4)), (158, iP 160 (fK (.inl 6))), (160, iB 163 167 (b2 (fun x y => decide (x ≠ y)))), (163, iP 164 (fK (.inl 1))), (164, iP 168 fGo), (167, iP 168 (fK (.inl 0))), (168, iP 169 (f2I (fun x y => x - y))), (169, iW 172 (ptI 66)), (172, iP 175 (fInc 3 1)), (175, iP 12 fGo), (178, iRet rV)] : List (Nat × AS)), SI X l 135 q.1 q.2 := List.forall_mem_cons.mpr ⟨
  s_dup (show decode (cod 135) 142 = .ok (.dup, 1) by decide +kernel), List.forall_mem_cons.mpr ⟨
  s_getI (show decode (cod 135) 143 = .ok (.getfield 112, 3) by decide +kernel) wd_661 (Or.inl rfl) (Or.inl rfl), List.forall_mem_cons.mpr ⟨
  s_iconst (show decode (cod 135) 146 = .ok (.iconst 1, 1) by decide +kernel) rfl, List.forall_mem_cons.mpr ⟨
  s_isub (show decode (cod 135) 147 = .ok (.isub, 1) by decide +kernel), List.forall_mem_cons.mpr ⟨
  s_putI (show decode (cod 135) 148 = .ok (.putfield 112, 3) by decide +kernel) wd_661 (Or.inl rfl) (Or.inl rfl) rfl, List.forall_mem_cons.mpr ⟨
  s_aload_n (k := 0) (show decode (cod 135) 151 = .ok (.aload_n 0, 1) by decide +kernel), List.forall_mem_cons.mpr ⟨
  s_dup (show decode (cod 135) 152 = .ok (.dup, 1) by decide +kernel), List.forall_mem_cons.mpr ⟨
  s_getI (show decode (cod 135) 153 = .ok (.getfield 115, 3) by decide +kernel) wd_659 (Or.inl rfl) (Or.inl rfl), List.forall_mem_cons.mpr ⟨
  s_iload (k := 4) (show decode (cod 135) 156 = .ok (.iload 4, 2) by decide +kernel), List.forall_mem_cons.mpr ⟨
  s_bipush (show decode (cod 135) 158 = .ok (.bipush 6, 2) by decide +kernel) rfl, List.forall_mem_cons.mpr ⟨
  s_icmpne (show decode (cod 135) 160 = .ok (.if_icmp .ne 7, 3) by decide +kernel) (by decide), List.forall_mem_cons.mpr ⟨
  s_iconst (show decode (cod 135) 163 = .ok (.iconst 1, 1) by decide +kernel) rfl, List.forall_mem_cons.mpr ⟨
  s_goto (show decode (cod 135) 164 = .ok (.goto 4, 3) by decide +kernel) (by decide), List.forall_mem_cons.mpr ⟨
  s_iconst (show decode (cod 135) 167 = .ok (.iconst 0, 1) by decide +kernel) rfl, List.forall_mem_cons.mpr ⟨
  s_isub (show decode (cod 135) 168 = .ok (.isub, 1) by decide +kernel), List.forall_mem_cons.mpr ⟨
  s_putI (show decode (cod 135) 169 = .ok (.putfield 115, 3) by decide +kernel) wd_659 (Or.inl rfl) (Or.inl rfl) rfl, List.forall_mem_cons.mpr ⟨
  s_iinc (show decode (cod 135) 172 = .ok (.iinc 3 1, 3) by decide +kernel) rfl, List.forall_mem_cons.mpr ⟨
  s_goto (show decode (cod 135) 175 = .ok (.goto (-163), 3) by decide +kernel) (by decide), List.forall_mem_cons.mpr ⟨
  s_ret (show decode (cod 135) 178 = .ok (.return_, 1) by decide +kernel) rV_ok (fun h => by cases h), fun _ h => by cases h⟩⟩⟩⟩⟩⟩⟩⟩⟩⟩⟩⟩⟩⟩⟩⟩⟩⟩⟩
set_option maxRecDepth 100000 in
theorem si135 (X : CX) (l : Launch) : ∀ q ∈ pt135, SI X l 135 q.1 q.2 := (List.forall_mem_append (l₁ := _) (l₂ := _)).mpr ⟨si135_0 X l, (List.forall_mem_append (l₁ := _) (l₂ := _)).mpr ⟨si135_1 X l, si135_2 X l⟩⟩
set_option maxRecDepth 100000 in
set_option maxHeartbeats 4000000 in
theorem si136_0 (X : CX) (l : Launch) : ∀ q ∈ ([(0, iP 1 (fAld 0)), (1, iP 2 (fIld 1)), (2, iCK 5 12 132 2 2 1), (5, iB 8 32 (b1 (fun x => decide (x = 0)))), (8, iP 9 (fIld 2)), (9, iP 10 fI2l), (10, iP 11 (fK (.inr (.inl 0)))), (11, iP 12 (fIld 1)), (12, iP 13 (fK (.inl 1))), (13, iP 14 (f2I (fun x y => x - y))), (14, iP 15 fI2l), (15, iC 18 130 6 3 1), (18, iB 21 32 (b1 (fun x => decide (x = 0)))), (21, iP 22 (fAld 0)), (22, iP 23 (fIld 1)), (23, iP 24 (fK (.inl 4))), (24, iP 25 (fK (.inl 0))), (25, iP 26 (fIld 2)), (26, iCK 29 12 133 7 5 1), (29, iP 34 fGo), (32, iP 34 (fK (.inl (-1000001)))), (34, iRet rI)] : List (Nat × AS)), SI X l 136 q.1 q.2 := List.forall_mem_cons.mpr ⟨
  s_aload_n (k := 0) (show decode (cod 136) 0 = .ok (.aload_n 0, 1) by decide +kernel), List.forall_mem_cons.mpr ⟨
  s_iload_n (k := 1) (show decode (cod 136) 1 = .ok (.iload_n 1, 1) by decide +kernel), List.forall_mem_cons.mpr ⟨
  s_invK rfl (rcv_virt (show decode (cod 136) 2 = .ok (.invokevirtual 118, 3) by decide +kernel) cld_136_132 ⟨11, _, _, rfl, by decide, rfl⟩ wd_646 wd_647 wd_648), List.forall_mem_cons.mpr ⟨
  s_ifeq (show decode (cod 136) 5 = .ok (.ifCond .eq 27, 3) by decide +kernel) (by decide), List.forall_mem_cons.mpr ⟨
  s_iload_n (k := 2) (show decode (cod 136) 8 = .ok (.iload_n 2, 1) by decide +kernel), List.forall_mem_cons.mpr ⟨
  s_i2l (show decode (cod 136) 9 = .ok (.i2l, 1) by decide +kernel), List.forall_mem_cons.mpr ⟨
  s_lconst (show decode (cod 136) 10 = .ok (.lconst 0, 1) by decide +kernel) rfl, List.forall_mem_cons.mpr ⟨
  s_iload_n (k := 1) (show decode (cod 136) 11 = .ok (.iload_n 1, 1) by decide +kernel), List.forall_mem_cons.mpr ⟨
  s_iconst (show decode (cod 136) 12 = .ok (.iconst 1, 1) by decide +kernel) rfl, List.forall_mem_cons.mpr ⟨
  s_isub (show decode (cod 136) 13 = .ok (.isub, 1) by decide +kernel), List.forall_mem_cons.mpr ⟨
  s_i2l (show decode (cod 136) 14 = .ok (.i2l, 1) by decide +kernel), List.forall_mem_cons.mpr ⟨
  s_invS (show decode (cod 136) 15 = .ok (.invokestatic 100, 3) by decide +kernel) rfl cld_136_130 wd_641 wd_642, List.forall_mem_cons.mpr ⟨
  s_ifeq (show decode (cod 136) 18 = .ok (.ifCond .eq 14, 3) by decide +kernel) (by decide), List.forall_mem_cons.mpr ⟨
  s_aload_n (k := 0) (show decode (cod 136) 21 = .ok (.aload_n 0, 1) by decide +kernel), List.forall_mem_cons.mpr ⟨
  s_iload_n (k := 1) (show decode (cod 136) 22 = .ok (.iload_n 1, 1) by decide +kernel), List.forall_mem_cons.mpr ⟨
  s_iconst (show decode (cod 136) 23 = .ok (.iconst 4, 1) by decide +kernel) rfl, List.forall_mem_cons.mpr ⟨
  s_iconst (show decode (cod 136) 24 = .ok (.iconst 0, 1) by decide +kernel) rfl, List.forall_mem_cons.mpr ⟨
  s_iload_n (k := 2) (show decode (cod 136) 25 = .ok (.iload_n 2, 1) by decide +kernel), List.forall_mem_cons.mpr ⟨
  s_invK rfl (rcv_virt (show decode (cod 136) 26 = .ok (.invokevirtual 125, 3) by decide +kernel) cld_136_133 ⟨11, _, _, rfl, by decide, rfl⟩ wd_652 wd_653 wd_654), List.forall_mem_cons.mpr ⟨
  s_goto (show decode (cod 136) 29 = .ok (.goto 5, 3) by decide +kernel) (by decide), List.forall_mem_cons.mpr ⟨
  s_ldc (show decode (cod 136) 32 = .ok (.ldc 111, 2) by decide +kernel) wd_644, List.forall_mem_cons.mpr ⟨
  s_ret (show decode (cod 136) 34 = .ok (.ireturn, 1) by decide +kernel) rI_ok (fun h => by cases h), fun _ h => by cases h⟩⟩⟩⟩⟩⟩⟩⟩⟩⟩⟩⟩⟩⟩⟩⟩⟩⟩⟩⟩⟩⟩
set_option maxRecDepth 100000 in
theorem si136 (X : CX) (l : Launch) : ∀ q ∈ pt136, SI X l 136 q.1 q.2 :=  si136_0 X l
set_option maxRecDepth 100000 in
set_option maxHeartbeats 4000000 in
theorem si137_0 (X : CX) (l : Launch) : ∀ q ∈ ([(0, iP 1 (fAld 0)), (1, iP 2 (fIld 1)), (2, iCK 5 12 132 2 2 1), (5, iB 8 20 (b1 (fun x => decide (x = 0)))), (8, iP 9 (fAld 0)), (9, iP 10 (fIld 1)), (10, iP 11 (fK (.inl 5))), (11, iP 12 (fK (.inl 0))), (12, iP 14 (fK (.inl (-1000000)))), (14, iCK 17 12 133 7 5 1), (17, iP 22 fGo), (20, iP 22 (fK (.inl (-1000001)))), (22, iRet rI)] : List (Nat × AS)), SI X l 137 q.1 q.2 := List.forall_mem_cons.mpr ⟨
  s_aload_n (k := 0) (show decode (cod 137) 0 = .ok (.aload_n 0, 1) by decide +kernel), List.forall_mem_cons.mpr ⟨
  s_iload_n (k := 1) (show decode (cod 137) 1 = .ok (.iload_n 1, 1) by decide +kernel), List.forall_mem_cons.mpr ⟨
  s_invK rfl (rcv_virt (show decode (cod 137) 2 = .ok (.invokevirtual 118, 3) by decide +kernel) cld_137_132 ⟨11, _, _, rfl, by decide, rfl⟩ wd_646 wd_647 wd_648), List.forall_mem_cons.mpr ⟨
  s_ifeq (show decode (cod 137) 5 = .ok (.ifCond .eq 15, 3) by decide +kernel) (by decide), List.forall_mem_cons.mpr ⟨
  s_aload_n (k := 0) (show decode (cod 137) 8 = .ok (.aload_n 0, 1) by decide +kernel), List.forall_mem_cons.mpr ⟨
  s_iload_n (k := 1) (show decode (cod 137) 9 = .ok (.iload_n 1, 1) by decide +kernel), List.forall_mem_cons.mpr ⟨
  s_iconst (show decode (cod 137) 10 = .ok (.iconst 5, 1) by decide +kernel) rfl, List.forall_mem_cons.mpr ⟨
  s_iconst (show decode (cod 137) 11 = .ok (.iconst 0, 1) by decide +kernel) rfl, List.forall_mem_cons.mpr ⟨
  s_ldc (show decode (cod 137) 12 = .ok (.ldc 124, 2) by decide +kernel) wd_650, List.forall_mem_cons.mpr ⟨
  s_invK rfl (rcv_virt (show decode (cod 137) 14 = .ok (.invokevirtual 125, 3) by decide +kernel) cld_137_133 ⟨11, _, _, rfl, by decide, rfl⟩ wd_652 wd_653 wd_654), List.forall_mem_cons.mpr ⟨
  s_goto (show decode (cod 137) 17 = .ok (.goto 5, 3) by decide +kernel) (by decide), List.forall_mem_cons.mpr ⟨
  s_ldc (show decode (cod 137) 20 = .ok (.ldc 111, 2) by decide +kernel) wd_644, List.forall_mem_cons.mpr ⟨
  s_ret (show decode (cod 137) 22 = .ok (.ireturn, 1) by decide +kernel) rI_ok (fun h => by cases h), fun _ h => by cases h⟩⟩⟩⟩⟩⟩⟩⟩⟩⟩⟩⟩⟩
set_option maxRecDepth 100000 in
theorem si137 (X : CX) (l : Launch) : ∀ q ∈ pt137, SI X l 137 q.1 q.2 :=  si137_0 X l
set_option maxRecDepth 100000 in
set_option maxHeartbeats 4000000 in
theorem si138_0 (X : CX) (l : Launch) : ∀ q ∈ ([(0, iP 1 (fAld 0)), (1, iP 2 (fIld 1)), (2, iCK 5 12 132 2 2 1), (5, iB 8 22 (b1 (fun x => decide (x = 0)))), (8, iP 9 (fIld 2)), (9, iP 10 fI2l), (10, iP 13 (fK (.inr (.inl 6)))), (13, iP 16 (fK (.inr (.inl 8)))), (16, iC 19 130 6 3 1), (19, iB 22 25 (b1 (fun x => decide (x ≠ 0)))), (22, iP 24 (fK (.inl (-1000001)))), (24, iRet rI), (25, iP 26 (fAld 0)), (26, iP 27 (fIld 1)), (27, iP 28 (fAld 0)), (28, iRR 31 (gtR 51)), (31, iP 32 (fIld 1)), (32, iRI 33 qAI), (33, iCK 36 12 135 5 3 0), (36, iP 37 (fIld 2)), (37, iP 39 (fK (.inl 6))), (39, iB 42 46 (b2 (fun x y => decide (x ≠ y)))), (42, iP 43 (fK (.inl 0))), (43, iP 57 fGo), (46, iP 47 (fIld 2)), (47, iP 49 (fK (.inl 7))), (49, iB 52 56 (b2 (fun x y => decide (x ≠ y)))), (52, iP 53 (fK (.inl 1))), (53, iP 57 fGo), (56, iP 57 (fK (.inl 2))), (57, iP 58 (fIst 3)), (58, iP 59 (fAld 0)), (59, iRI 62 (gtI 63)), (62, iB 65 80 (b1 (fun x => decide (x = 0)))), (65, iP 66 (fAld 0)), (66, iRR 69 (gtR 64)), (69, iP 70 (fAld 0)), (70, iRI 73 (gtI 63)), (73, iP 74 (fK (.inl 1))), (74, iP 75 (f2I (fun x y => x - y)))] : List (Nat × AS)), SI X l 138 q.1 q.2 := List.forall_mem_cons.mpr ⟨
  s_aload_n (k := 0) (show decode (cod 138) 0 = .ok (.aload_n 0, 1) by decide +kernel), List.forall_mem_cons.mpr ⟨
  s_iload_n (k := 1) (show decode (cod 138) 1 = .ok (.iload_n 1, 1) by decide +kernel), List.forall_mem_cons.mpr ⟨
  s_invK rfl (rcv_virt (show decode (cod 138) 2 = .ok (.invokevirtual 118, 3) by decide +kernel) cld_138_132 ⟨11, _, _, rfl, by decide, rfl⟩ wd_646 wd_647 wd_648), List.forall_mem_cons.mpr ⟨
  s_ifeq (show decode (cod 138) 5 = .ok (.ifCond .eq 17, 3) by decide +kernel) (by decide), List.forall_mem_cons.mpr ⟨
  s_iload_n (k := 2) (show decode (cod 138) 8 = .ok (.iload_n 2, 1) by decide +kernel), List.forall_mem_cons.mpr ⟨
  s_i2l (show decode (cod 138) 9 = .ok (.i2l, 1) by decide +kernel), List.forall_mem_cons.mpr ⟨
  s_ldc2 (show decode (cod 138) 10 = .ok (.ldc2_w 134, 3) by decide +kernel) wd_662, List.forall_mem_cons.mpr ⟨
  s_ldc2 (show decode (cod 138) 13 = .ok (.ldc2_w 136, 3) by decide +kernel) wd_663, List.forall_mem_cons.mpr ⟨
  s_invS (show decode (cod 138) 16 = .ok (.invokestatic 100, 3) by decide +kernel) rfl cld_138_130 wd_641 wd_642, List.forall_mem_cons.mpr ⟨
  s_ifne (show decode (cod 138) 19 = .ok (.ifCond .ne 6, 3) by decide +kernel) (by decide), List.forall_mem_cons.mpr ⟨
  s_ldc (show decode (cod 138) 22 = .ok (.ldc 111, 2) by decide +kernel) wd_644, List.forall_mem_cons.mpr ⟨
  s_ret (show decode (cod 138) 24 = .ok (.ireturn, 1) by decide +kernel) rI_ok (fun h => by cases h), List.forall_mem_cons.mpr ⟨
  s_aload_n (k := 0) (show decode (cod 138) 25 = .ok (.aload_n 0, 1) by decide +kernel), List.forall_mem_cons.mpr ⟨
  s_iload_n (k := 1) (show decode (cod 138) 26 = .ok (.iload_n 1, 1) by decide +kernel), List.forall_mem_cons.mpr ⟨
  s_aload_n (k := 0) (show decode (cod 138) 27 = .ok (.aload_n 0, 1) by decide +kernel), List.forall_mem_cons.mpr ⟨
  s_getR (show decode (cod 138) 28 = .ok (.getfield 7, 3) by decide +kernel) wd_607 (Or.inl rfl) rfl, List.forall_mem_cons.mpr ⟨
  s_iload_n (k := 1) (show decode (cod 138) 31 = .ok (.iload_n 1, 1) by decide +kernel), List.forall_mem_cons.mpr ⟨
  s_iaload (show decode (cod 138) 32 = .ok (.iaload, 1) by decide +kernel), List.forall_mem_cons.mpr ⟨
  s_invK rfl (rcv_virt (show decode (cod 138) 33 = .ok (.invokevirtual 129, 3) by decide +kernel) cld_138_135 ⟨11, _, _, rfl, by decide, rfl⟩ wd_656 wd_657 wd_658), List.forall_mem_cons.mpr ⟨
  s_iload_n (k := 2) (show decode (cod 138) 36 = .ok (.iload_n 2, 1) by decide +kernel), List.forall_mem_cons.mpr ⟨
  s_bipush (show decode (cod 138) 37 = .ok (.bipush 6, 2) by decide +kernel) rfl, List.forall_mem_cons.mpr ⟨
  s_icmpne (show decode (cod 138) 39 = .ok (.if_icmp .ne 7, 3) by decide +kernel) (by decide), List.forall_mem_cons.mpr ⟨
  s_iconst (show decode (cod 138) 42 = .ok (.iconst 0, 1) by decide +kernel) rfl, List.forall_mem_cons.mpr ⟨
  s_goto (show decode (cod 138) 43 = .ok (.goto 14, 3) by decide +kernel) (by decide), List.forall_mem_cons.mpr ⟨
  s_iload_n (k := 2) (show decode (cod 138) 46 = .ok (.iload_n 2, 1) by decide +kernel), List.forall_mem_cons.mpr ⟨
  s_bipush (show decode (cod 138) 47 = .ok (.bipush 7, 2) by decide +kernel) rfl, List.forall_mem_cons.mpr ⟨
  s_icmpne (show decode (cod 138) 49 = .ok (.if_icmp .ne 7, 3) by decide +kernel) (by decide), List.forall_mem_cons.mpr ⟨
  s_iconst (show decode (cod 138) 52 = .ok (.iconst 1, 1) by decide +kernel) rfl, List.forall_mem_cons.mpr ⟨
  s_goto (show decode (cod 138) 53 = .ok (.goto 4, 3) by decide +kernel) (by decide), List.forall_mem_cons.mpr ⟨
  s_iconst (show decode (cod 138) 56 = .ok (.iconst 2, 1) by decide +kernel) rfl, List.forall_mem_cons.mpr ⟨
  s_istore_n (k := 3) (show decode (cod 138) 57 = .ok (.istore_n 3, 1) by decide +kernel), List.forall_mem_cons.mpr ⟨
  s_aload_n (k := 0) (show decode (cod 138) 58 = .ok (.aload_n 0, 1) by decide +kernel), List.forall_mem_cons.mpr ⟨
  s_getI (show decode (cod 138) 59 = .ok (.getfield 112, 3) by decide +kernel) wd_661 (Or.inl rfl) (Or.inl rfl), List.forall_mem_cons.mpr ⟨
  s_ifeq (show decode (cod 138) 62 = .ok (.ifCond .eq 18, 3) by decide +kernel) (by decide), List.forall_mem_cons.mpr ⟨
  s_aload_n (k := 0) (show decode (cod 138) 65 = .ok (.aload_n 0, 1) by decide +kernel), List.forall_mem_cons.mpr ⟨
  s_getR (show decode (cod 138) 66 = .ok (.getfield 41, 3) by decide +kernel) wd_617 (Or.inl rfl) rfl, List.forall_mem_cons.mpr ⟨
  s_aload_n (k := 0) (show decode (cod 138) 69 = .ok (.aload_n 0, 1) by decide +kernel), List.forall_mem_cons.mpr ⟨
  s_getI (show decode (cod 138) 70 = .ok (.getfield 112, 3) by decide +kernel) wd_661 (Or.inl rfl) (Or.inl rfl), List.forall_mem_cons.mpr ⟨
  s_iconst (show decode (cod 138) 73 = .ok (.iconst 1, 1) by decide +kernel) rfl, List.forall_mem_cons.mpr ⟨
  s_isub (show decode (cod 138) 74 = .ok (.isub, 1) by decide +kernel), fun _ h => by cases h⟩⟩⟩⟩⟩⟩⟩⟩⟩⟩⟩⟩⟩⟩⟩⟩⟩⟩⟩⟩⟩⟩⟩⟩⟩⟩⟩⟩⟩⟩⟩⟩⟩⟩⟩⟩⟩⟩⟩⟩
set_option maxRecDepth 100000 in
set_option maxHeartbeats 4000000 in
theorem si138_1 (X : CX) (l : Launch) : ∀ q ∈ ([(75, iRI 76 qAI), (76, iP 77 (fIld 3)), (77, iB 80 85 (b2 (fun x y => decide (x = y)))), (80, iP 82 (fK (.inl (-1000002)))), (82, iP 94 fGo), (85, iP 86 (fAld 0)), (86, iP 87 (fIld 1)), (87, iP 88 (fIld 2)), (88, iP 89 (fK (.inl 0))), (89, iP 91 (fK (.inl (-1000000)))), (91, iCK 94 12 133 7 5 1), (94, iRet rI)] : List (Nat × AS)), SI X l 138 q.1 q.2 := List.forall_mem_cons.mpr ⟨
  s_iaload (show decode (cod 138) 75 = .ok (.iaload, 1) by decide +kernel), List.forall_mem_cons.mpr ⟨
  s_iload_n (k := 3) (show decode (cod 138) 76 = .ok (.iload_n 3, 1) by decide +kernel), List.forall_mem_cons.mpr ⟨
  s_icmpeq (show decode (cod 138) 77 = .ok (.if_icmp .eq 8, 3) by decide +kernel) (by decide), List.forall_mem_cons.mpr ⟨
  s_ldc (show decode (cod 138) 80 = .ok (.ldc 133, 2) by decide +kernel) wd_660, List.forall_mem_cons.mpr ⟨
  s_goto (show decode (cod 138) 82 = .ok (.goto 12, 3) by decide +kernel) (by decide), List.forall_mem_cons.mpr ⟨
  s_aload_n (k := 0) (show decode (cod 138) 85 = .ok (.aload_n 0, 1) by decide +kernel), List.forall_mem_cons.mpr ⟨
  s_iload_n (k := 1) (show decode (cod 138) 86 = .ok (.iload_n 1, 1) by decide +kernel), List.forall_mem_cons.mpr ⟨
  s_iload_n (k := 2) (show decode (cod 138) 87 = .ok (.iload_n 2, 1) by decide +kernel), List.forall_mem_cons.mpr ⟨
  s_iconst (show decode (cod 138) 88 = .ok (.iconst 0, 1) by decide +kernel) rfl, List.forall_mem_cons.mpr ⟨
  s_ldc (show decode (cod 138) 89 = .ok (.ldc 124, 2) by decide +kernel) wd_650, List.forall_mem_cons.mpr ⟨
  s_invK rfl (rcv_virt (show decode (cod 138) 91 = .ok (.invokevirtual 125, 3) by decide +kernel) cld_138_133 ⟨11, _, _, rfl, by decide, rfl⟩ wd_652 wd_653 wd_654), List.forall_mem_cons.mpr ⟨
  s_ret (show decode (cod 138) 94 = .ok (.ireturn, 1) by decide +kernel) rI_ok (fun h => by cases h), fun _ h => by cases h⟩⟩⟩⟩⟩⟩⟩⟩⟩⟩⟩⟩
set_option maxRecDepth 100000 in
theorem si138 (X : CX) (l : Launch) : ∀ q ∈ pt138, SI X l 138 q.1 q.2 := (List.forall_mem_append (l₁ := _) (l₂ := _)).mpr ⟨si138_0 X l, si138_1 X l⟩
set_option maxRecDepth 100000 in
set_option maxHeartbeats 4000000 in
theorem si139_0 (X : CX) (l : Launch) : ∀ q ∈ ([(0, iP 1 (fAld 0)), (1, iP 2 (fIld 1)), (2, iCK 5 12 132 2 2 1), (5, iB 8 11 (b1 (fun x => decide (x ≠ 0)))), (8, iP 10 (fK (.inl (-1000001)))), (10, iRet rI), (11, iP 12 (fAld 0)), (12, iRR 15 (gtR 51)), (15, iP 16 (fIld 1)), (16, iRI 17 qAI), (17, iB 20 23 (b1 (fun x => decide (x ≠ 0)))), (20, iP 22 (fK (.inl (-1000002)))), (22, iRet rI), (23, iP 24 (fAld 0)), (24, iRR 27 (gtR 51)), (27, iP 28 (fIld 1)), (28, iP 29 fDup2), (29, iRI 30 qAI), (30, iP 31 (fK (.inl 1))), (31, iP 32 (f2I (fun x y => x - y))), (32, iW 33 wAI), (33, iP 34 (fAld 0)), (34, iP 35 (fK (.inl 0))), (35, iW 38 (ptZ 60)), (38, iP 39 (fAld 0)), (39, iRR 42 (gtR 51)), (42, iP 43 (fIld 1)), (43, iRI 44 qAI), (44, iRet rI)] : List (Nat × AS)), SI X l 139 q.1 q.2 := List.forall_mem_cons.mpr ⟨
  s_aload_n (k := 0) (show decode (cod 139) 0 = .ok (.aload_n 0, 1) by decide +kernel), List.forall_mem_cons.mpr ⟨
  s_iload_n (k := 1) (show decode (cod 139) 1 = .ok (.iload_n 1, 1) by decide +kernel), List.forall_mem_cons.mpr ⟨
  s_invK rfl (rcv_virt (show decode (cod 139) 2 = .ok (.invokevirtual 118, 3) by decide +kernel) cld_139_132 ⟨11, _, _, rfl, by decide, rfl⟩ wd_646 wd_647 wd_648), List.forall_mem_cons.mpr ⟨
  s_ifne (show decode (cod 139) 5 = .ok (.ifCond .ne 6, 3) by decide +kernel) (by decide), List.forall_mem_cons.mpr ⟨
  s_ldc (show decode (cod 139) 8 = .ok (.ldc 111, 2) by decide +kernel) wd_644, List.forall_mem_cons.mpr ⟨
  s_ret (show decode (cod 139) 10 = .ok (.ireturn, 1) by decide +kernel) rI_ok (fun h => by cases h), List.forall_mem_cons.mpr ⟨
  s_aload_n (k := 0) (show decode (cod 139) 11 = .ok (.aload_n 0, 1) by decide +kernel), List.forall_mem_cons.mpr ⟨
  s_getR (show decode (cod 139) 12 = .ok (.getfield 7, 3) by decide +kernel) wd_607 (Or.inl rfl) rfl, List.forall_mem_cons.mpr ⟨
  s_iload_n (k := 1) (show decode (cod 139) 15 = .ok (.iload_n 1, 1) by decide +kernel), List.forall_mem_cons.mpr ⟨
  s_iaload (show decode (cod 139) 16 = .ok (.iaload, 1) by decide +kernel), List.forall_mem_cons.mpr ⟨
  s_ifne (show decode (cod 139) 17 = .ok (.ifCond .ne 6, 3) by decide +kernel) (by decide), List.forall_mem_cons.mpr ⟨
  s_ldc (show decode (cod 139) 20 = .ok (.ldc 133, 2) by decide +kernel) wd_660, List.forall_mem_cons.mpr ⟨
  s_ret (show decode (cod 139) 22 = .ok (.ireturn, 1) by decide +kernel) rI_ok (fun h => by cases h), List.forall_mem_cons.mpr ⟨
  s_aload_n (k := 0) (show decode (cod 139) 23 = .ok (.aload_n 0, 1) by decide +kernel), List.forall_mem_cons.mpr ⟨
  s_getR (show decode (cod 139) 24 = .ok (.getfield 7, 3) by decide +kernel) wd_607 (Or.inl rfl) rfl, List.forall_mem_cons.mpr ⟨
  s_iload_n (k := 1) (show decode (cod 139) 27 = .ok (.iload_n 1, 1) by decide +kernel), List.forall_mem_cons.mpr ⟨
  s_dup2 (show decode (cod 139) 28 = .ok (.dup2, 1) by decide +kernel), List.forall_mem_cons.mpr ⟨
  s_iaload (show decode (cod 139) 29 = .ok (.iaload, 1) by decide +kernel), List.forall_mem_cons.mpr ⟨
  s_iconst (show decode (cod 139) 30 = .ok (.iconst 1, 1) by decide +kernel) rfl, List.forall_mem_cons.mpr ⟨
  s_isub (show decode (cod 139) 31 = .ok (.isub, 1) by decide +kernel), List.forall_mem_cons.mpr ⟨
  s_iastore (show decode (cod 139) 32 = .ok (.iastore, 1) by decide +kernel), List.forall_mem_cons.mpr ⟨
  s_aload_n (k := 0) (show decode (cod 139) 33 = .ok (.aload_n 0, 1) by decide +kernel), List.forall_mem_cons.mpr ⟨
  s_iconst (show decode (cod 139) 34 = .ok (.iconst 0, 1) by decide +kernel) rfl, List.forall_mem_cons.mpr ⟨
  s_putZ (show decode (cod 139) 35 = .ok (.putfield 105, 3) by decide +kernel) wd_638 (Or.inl rfl) (Or.inl rfl) rfl, List.forall_mem_cons.mpr ⟨
  s_aload_n (k := 0) (show decode (cod 139) 38 = .ok (.aload_n 0, 1) by decide +kernel), List.forall_mem_cons.mpr ⟨
  s_getR (show decode (cod 139) 39 = .ok (.getfield 7, 3) by decide +kernel) wd_607 (Or.inl rfl) rfl, List.forall_mem_cons.mpr ⟨
  s_iload_n (k := 1) (show decode (cod 139) 42 = .ok (.iload_n 1, 1) by decide +kernel), List.forall_mem_cons.mpr ⟨
  s_iaload (show decode (cod 139) 43 = .ok (.iaload, 1) by decide +kernel), List.forall_mem_cons.mpr ⟨
  s_ret (show decode (cod 139) 44 = .ok (.ireturn, 1) by decide +kernel) rI_ok (fun h => by cases h), fun _ h => by cases h⟩⟩⟩⟩⟩⟩⟩⟩⟩⟩⟩⟩⟩⟩⟩⟩⟩⟩⟩⟩⟩⟩⟩⟩⟩⟩⟩⟩⟩
set_option maxRecDepth 100000 in
theorem si139 (X : CX) (l : Launch) : ∀ q ∈ pt139, SI X l 139 q.1 q.2 :=  si139_0 X l
set_option maxRecDepth 100000 in
set_option maxHeartbeats 4000000 in
theorem si140_0 (X : CX) (l : Launch) : ∀ q ∈ ([(0, iP 1 (fAld 0)), (1, iP 2 (fIld 1)), (2, iP 3 (fIld 2)), (3, iCK 6 12 141 3 3 1), (6, iB 9 23 (b1 (fun x => decide (x = 0)))), (9, iP 10 (fAld 0)), (10, iRR 13 (gtR 52)), (13, iP 15 (fK (.inl 24))), (15, iP 16 (fIld 1)), (16, iP 17 (f2I (fun x y => x * y))), (17, iP 18 (fIld 2)), (18, iP 19 (f2I (fun x y => x + y))), (19, iRI 20 qAI), (20, iP 25 fGo), (23, iP 25 (fK (.inl (-1000001)))), (25, iRet rI)] : List (Nat × AS)), SI X l 140 q.1 q.2 := List.forall_mem_cons.mpr ⟨
  s_aload_n (k := 0) (show decode (cod 140) 0 = .ok (.aload_n 0, 1) by decide +kernel), List.forall_mem_cons.mpr ⟨
  s_iload_n (k := 1) (show decode (cod 140) 1 = .ok (.iload_n 1, 1) by decide +kernel), List.forall_mem_cons.mpr ⟨
  s_iload_n (k := 2) (show decode (cod 140) 2 = .ok (.iload_n 2, 1) by decide +kernel), List.forall_mem_cons.mpr ⟨
  s_invK rfl (rcv_virt (show decode (cod 140) 3 = .ok (.invokevirtual 138, 3) by decide +kernel) cld_140_141 ⟨11, _, _, rfl, by decide, rfl⟩ wd_665 wd_666 wd_667), List.forall_mem_cons.mpr ⟨
  s_ifeq (show decode (cod 140) 6 = .ok (.ifCond .eq 17, 3) by decide +kernel) (by decide), List.forall_mem_cons.mpr ⟨
  s_aload_n (k := 0) (show decode (cod 140) 9 = .ok (.aload_n 0, 1) by decide +kernel), List.forall_mem_cons.mpr ⟨
  s_getR (show decode (cod 140) 10 = .ok (.getfield 13, 3) by decide +kernel) wd_608 (Or.inl rfl) rfl, List.forall_mem_cons.mpr ⟨
  s_bipush (show decode (cod 140) 13 = .ok (.bipush 24, 2) by decide +kernel) rfl, List.forall_mem_cons.mpr ⟨
  s_iload_n (k := 1) (show decode (cod 140) 15 = .ok (.iload_n 1, 1) by decide +kernel), List.forall_mem_cons.mpr ⟨
  s_imul (show decode (cod 140) 16 = .ok (.imul, 1) by decide +kernel), List.forall_mem_cons.mpr ⟨
  s_iload_n (k := 2) (show decode (cod 140) 17 = .ok (.iload_n 2, 1) by decide +kernel), List.forall_mem_cons.mpr ⟨
  s_iadd (show decode (cod 140) 18 = .ok (.iadd, 1) by decide +kernel), List.forall_mem_cons.mpr ⟨
  s_iaload (show decode (cod 140) 19 = .ok (.iaload, 1) by decide +kernel), List.forall_mem_cons.mpr ⟨
  s_goto (show decode (cod 140) 20 = .ok (.goto 5, 3) by decide +kernel) (by decide), List.forall_mem_cons.mpr ⟨
  s_ldc (show decode (cod 140) 23 = .ok (.ldc 111, 2) by decide +kernel) wd_644, List.forall_mem_cons.mpr ⟨
  s_ret (show decode (cod 140) 25 = .ok (.ireturn, 1) by decide +kernel) rI_ok (fun h => by cases h), fun _ h => by cases h⟩⟩⟩⟩⟩⟩⟩⟩⟩⟩⟩⟩⟩⟩⟩⟩
set_option maxRecDepth 100000 in
theorem si140 (X : CX) (l : Launch) : ∀ q ∈ pt140, SI X l 140 q.1 q.2 :=  si140_0 X l
set_option maxRecDepth 100000 in
set_option maxHeartbeats 4000000 in
theorem si141_0 (X : CX) (l : Launch) : ∀ q ∈ ([(0, iP 1 (fAld 0)), (1, iP 2 (fIld 1)), (2, iCK 5 12 132 2 2 1), (5, iB 8 30 (b1 (fun x => decide (x = 0)))), (8, iP 9 (fIld 2)), (9, iP 10 fI2l), (10, iP 11 (fK (.inr (.inl 0)))), (11, iP 12 (fAld 0)), (12, iRR 15 (gtR 51)), (15, iP 16 (fIld 1)), (16, iRI 17 qAI), (17, iP 18 (fK (.inl 1))), (18, iP 19 (f2I (fun x y => x - y))), (19, iP 20 fI2l), (20, iC 23 130 6 3 1), (23, iB 26 30 (b1 (fun x => decide (x = 0)))), (26, iP 27 (fK (.inl 1))), (27, iP 31 fGo), (30, iP 31 (fK (.inl 0))), (31, iRet rZ)] : List (Nat × AS)), SI X l 141 q.1 q.2 := List.forall_mem_cons.mpr ⟨
  s_aload_n (k := 0) (show decode (cod 141) 0 = .ok (.aload_n 0, 1) by decide +kernel), List.forall_mem_cons.mpr ⟨
  s_iload_n (k := 1) (show decode (cod 141) 1 = .ok (.iload_n 1, 1) by decide +kernel), List.forall_mem_cons.mpr ⟨
  s_invK rfl (rcv_virt (show decode (cod 141) 2 = .ok (.invokevirtual 118, 3) by decide +kernel) cld_141_132 ⟨11, _, _, rfl, by decide, rfl⟩ wd_646 wd_647 wd_648), List.forall_mem_cons.mpr ⟨
  s_ifeq (show decode (cod 141) 5 = .ok (.ifCond .eq 25, 3) by decide +kernel) (by decide), List.forall_mem_cons.mpr ⟨
  s_iload_n (k := 2) (show decode (cod 141) 8 = .ok (.iload_n 2, 1) by decide +kernel), List.forall_mem_cons.mpr ⟨
  s_i2l (show decode (cod 141) 9 = .ok (.i2l, 1) by decide +kernel), List.forall_mem_cons.mpr ⟨
  s_lconst (show decode (cod 141) 10 = .ok (.lconst 0, 1) by decide +kernel) rfl, List.forall_mem_cons.mpr ⟨
  s_aload_n (k := 0) (show decode (cod 141) 11 = .ok (.aload_n 0, 1) by decide +kernel), List.forall_mem_cons.mpr ⟨
  s_getR (show decode (cod 141) 12 = .ok (.getfield 7, 3) by decide +kernel) wd_607 (Or.inl rfl) rfl, List.forall_mem_cons.mpr ⟨
  s_iload_n (k := 1) (show decode (cod 141) 15 = .ok (.iload_n 1, 1) by decide +kernel), List.forall_mem_cons.mpr ⟨
  s_iaload (show decode (cod 141) 16 = .ok (.iaload, 1) by decide +kernel), List.forall_mem_cons.mpr ⟨
  s_iconst (show decode (cod 141) 17 = .ok (.iconst 1, 1) by decide +kernel) rfl, List.forall_mem_cons.mpr ⟨
  s_isub (show decode (cod 141) 18 = .ok (.isub, 1) by decide +kernel), List.forall_mem_cons.mpr ⟨
  s_i2l (show decode (cod 141) 19 = .ok (.i2l, 1) by decide +kernel), List.forall_mem_cons.mpr ⟨
  s_invS (show decode (cod 141) 20 = .ok (.invokestatic 100, 3) by decide +kernel) rfl cld_141_130 wd_641 wd_642, List.forall_mem_cons.mpr ⟨
  s_ifeq (show decode (cod 141) 23 = .ok (.ifCond .eq 7, 3) by decide +kernel) (by decide), List.forall_mem_cons.mpr ⟨
  s_iconst (show decode (cod 141) 26 = .ok (.iconst 1, 1) by decide +kernel) rfl, List.forall_mem_cons.mpr ⟨
  s_goto (show decode (cod 141) 27 = .ok (.goto 4, 3) by decide +kernel) (by decide), List.forall_mem_cons.mpr ⟨
  s_iconst (show decode (cod 141) 30 = .ok (.iconst 0, 1) by decide +kernel) rfl, List.forall_mem_cons.mpr ⟨
  s_ret (show decode (cod 141) 31 = .ok (.ireturn, 1) by decide +kernel) rZ_ok (fun _ => rZ_b), fun _ h => by cases h⟩⟩⟩⟩⟩⟩⟩⟩⟩⟩⟩⟩⟩⟩⟩⟩⟩⟩⟩⟩
set_option maxRecDepth 100000 in
theorem si141 (X : CX) (l : Launch) : ∀ q ∈ pt141, SI X l 141 q.1 q.2 :=  si141_0 X l
set_option maxRecDepth 100000 in
set_option maxHeartbeats 4000000 in
theorem si142_0 (X : CX) (l : Launch) : ∀ q ∈ ([(0, iP 1 (fAld 0)), (1, iP 2 (fIld 1)), (2, iP 3 (fIld 2)), (3, iCK 6 12 141 3 3 1), (6, iB 9 21 (b1 (fun x => decide (x = 0)))), (9, iP 10 (fIld 3)), (10, iP 11 fI2l), (11, iP 12 (fK (.inr (.inl 0)))), (12, iP 15 (fK (.inr (.inl 8)))), (15, iC 18 130 6 3 1), (18, iB 21 24 (b1 (fun x => decide (x ≠ 0)))), (21, iP 23 (fK (.inl (-1000001)))), (23, iRet rI), (24, iP 25 (fAld 0)), (25, iRR 28 (gtR 52)), (28, iP 30 (fK (.inl 24))), (30, iP 31 (fIld 1)), (31, iP 32 (f2I (fun x y => x * y))), (32, iP 33 (fIld 2)), (33, iP 34 (f2I (fun x y => x + y))), (34, iRI 35 qAI), (35, iP 37 (fIst 4)), (37, iP 39 (fIld 4)), (39, iP 40 (fIld 3)), (40, iB 43 60 (b2 (fun x y => decide (x = y)))), (43, iP 44 (fIld 3)), (44, iB 47 60 (b1 (fun x => decide (x = 0)))), (47, iP 48 (fIld 3)), (48, iP 49 (fK (.inl 2))), (49, iB 52 64 (b2 (fun x y => decide (x ≠ y)))), (52, iP 54 (fIld 4)), (54, iC 57 143 1 1 1), (57, iB 60 64 (b1 (fun x => decide (x = 0)))), (60, iP 61 (fK (.inl 1))), (61, iP 65 fGo), (64, iP 65 (fK (.inl 0))), (65, iRet rI)] : List (Nat × AS)), SI X l 142 q.1 q.2 := List.forall_mem_cons.mpr ⟨
  s_aload_n (k := 0) (show decode (cod 142) 0 = .ok (.aload_n 0, 1) by decide +kernel), List.forall_mem_cons.mpr ⟨
  s_iload_n (k := 1) (show decode (cod 142) 1 = .ok (.iload_n 1, 1) by decide +kernel), List.forall_mem_cons.mpr ⟨
  s_iload_n (k := 2) (show decode (cod 142) 2 = .ok (.iload_n 2, 1) by decide +kernel), List.forall_mem_cons.mpr ⟨
  s_invK rfl (rcv_virt (show decode (cod 142) 3 = .ok (.invokevirtual 138, 3) by decide +kernel) cld_142_141 ⟨11, _, _, rfl, by decide, rfl⟩ wd_665 wd_666 wd_667), List.forall_mem_cons.mpr ⟨
  s_ifeq (show decode (cod 142) 6 = .ok (.ifCond .eq 15, 3) by decide +kernel) (by decide), List.forall_mem_cons.mpr ⟨
  s_iload_n (k := 3) (show decode (cod 142) 9 = .ok (.iload_n 3, 1) by decide +kernel), List.forall_mem_cons.mpr ⟨
  s_i2l (show decode (cod 142) 10 = .ok (.i2l, 1) by decide +kernel), List.forall_mem_cons.mpr ⟨
  s_lconst (show decode (cod 142) 11 = .ok (.lconst 0, 1) by decide +kernel) rfl, List.forall_mem_cons.mpr ⟨
  s_ldc2 (show decode (cod 142) 12 = .ok (.ldc2_w 136, 3) by decide +kernel) wd_663, List.forall_mem_cons.mpr ⟨
  s_invS (show decode (cod 142) 15 = .ok (.invokestatic 100, 3) by decide +kernel) rfl cld_142_130 wd_641 wd_642, List.forall_mem_cons.mpr ⟨
  s_ifne (show decode (cod 142) 18 = .ok (.ifCond .ne 6, 3) by decide +kernel) (by decide), List.forall_mem_cons.mpr ⟨
  s_ldc (show decode (cod 142) 21 = .ok (.ldc 111, 2) by decide +kernel) wd_644, List.forall_mem_cons.mpr ⟨
  s_ret (show decode (cod 142) 23 = .ok (.ireturn, 1) by decide +kernel) rI_ok (fun h => by cases h), List.forall_mem_cons.mpr ⟨
  s_aload_n (k := 0) (show decode (cod 142) 24 = .ok (.aload_n 0, 1) by decide +kernel), List.forall_mem_cons.mpr ⟨
  s_getR (show decode (cod 142) 25 = .ok (.getfield 13, 3) by decide +kernel) wd_608 (Or.inl rfl) rfl, List.forall_mem_cons.mpr ⟨
  s_bipush (show decode (cod 142) 28 = .ok (.bipush 24, 2) by decide +kernel) rfl, List.forall_mem_cons.mpr ⟨
  s_iload_n (k := 1) (show decode (cod 142) 30 = .ok (.iload_n 1, 1) by decide +kernel), List.forall_mem_cons.mpr ⟨
  s_imul (show decode (cod 142) 31 = .ok (.imul, 1) by decide +kernel), List.forall_mem_cons.mpr ⟨
  s_iload_n (k := 2) (show decode (cod 142) 32 = .ok (.iload_n 2, 1) by decide +kernel), List.forall_mem_cons.mpr ⟨
  s_iadd (show decode (cod 142) 33 = .ok (.iadd, 1) by decide +kernel), List.forall_mem_cons.mpr ⟨
  s_iaload (show decode (cod 142) 34 = .ok (.iaload, 1) by decide +kernel), List.forall_mem_cons.mpr ⟨
  s_istore (k := 4) (show decode (cod 142) 35 = .ok (.istore 4, 2) by decide +kernel), List.forall_mem_cons.mpr ⟨
  s_iload (k := 4) (show decode (cod 142) 37 = .ok (.iload 4, 2) by decide +kernel), List.forall_mem_cons.mpr ⟨
  s_iload_n (k := 3) (show decode (cod 142) 39 = .ok (.iload_n 3, 1) by decide +kernel), List.forall_mem_cons.mpr ⟨
  s_icmpeq (show decode (cod 142) 40 = .ok (.if_icmp .eq 20, 3) by decide +kernel) (by decide), List.forall_mem_cons.mpr ⟨
  s_iload_n (k := 3) (show decode (cod 142) 43 = .ok (.iload_n 3, 1) by decide +kernel), List.forall_mem_cons.mpr ⟨
  s_ifeq (show decode (cod 142) 44 = .ok (.ifCond .eq 16, 3) by decide +kernel) (by decide), List.forall_mem_cons.mpr ⟨
  s_iload_n (k := 3) (show decode (cod 142) 47 = .ok (.iload_n 3, 1) by decide +kernel), List.forall_mem_cons.mpr ⟨
  s_iconst (show decode (cod 142) 48 = .ok (.iconst 2, 1) by decide +kernel) rfl, List.forall_mem_cons.mpr ⟨
  s_icmpne (show decode (cod 142) 49 = .ok (.if_icmp .ne 15, 3) by decide +kernel) (by decide), List.forall_mem_cons.mpr ⟨
  s_iload (k := 4) (show decode (cod 142) 52 = .ok (.iload 4, 2) by decide +kernel), List.forall_mem_cons.mpr ⟨
  s_invS (show decode (cod 142) 54 = .ok (.invokestatic 142, 3) by decide +kernel) rfl cld_142_143 wd_669 wd_670, List.forall_mem_cons.mpr ⟨
  s_ifeq (show decode (cod 142) 57 = .ok (.ifCond .eq 7, 3) by decide +kernel) (by decide), List.forall_mem_cons.mpr ⟨
  s_iconst (show decode (cod 142) 60 = .ok (.iconst 1, 1) by decide +kernel) rfl, List.forall_mem_cons.mpr ⟨
  s_goto (show decode (cod 142) 61 = .ok (.goto 4, 3) by decide +kernel) (by decide), List.forall_mem_cons.mpr ⟨
  s_iconst (show decode (cod 142) 64 = .ok (.iconst 0, 1) by decide +kernel) rfl, List.forall_mem_cons.mpr ⟨
  s_ret (show decode (cod 142) 65 = .ok (.ireturn, 1) by decide +kernel) rI_ok (fun h => by cases h), fun _ h => by cases h⟩⟩⟩⟩⟩⟩⟩⟩⟩⟩⟩⟩⟩⟩⟩⟩⟩⟩⟩⟩⟩⟩⟩⟩⟩⟩⟩⟩⟩⟩⟩⟩⟩⟩⟩⟩⟩
set_option maxRecDepth 100000 in
theorem si142 (X : CX) (l : Launch) : ∀ q ∈ pt142, SI X l 142 q.1 q.2 :=  si142_0 X l
set_option maxRecDepth 100000 in
set_option maxHeartbeats 4000000 in
theorem si143_0 (X : CX) (l : Launch) : ∀ q ∈ ([(0, iP 1 (fIld 0)), (1, iP 2 (fK (.inl 3))), (2, iB 5 10 (b2 (fun x y => decide (x = y)))), (5, iP 6 (fIld 0)), (6, iP 7 (fK (.inl 4))), (7, iB 10 14 (b2 (fun x y => decide (x ≠ y)))), (10, iP 11 (fK (.inl 1))), (11, iP 15 fGo), (14, iP 15 (fK (.inl 0))), (15, iRet rZ)] : List (Nat × AS)), SI X l 143 q.1 q.2 := List.forall_mem_cons.mpr ⟨
  s_iload_n (k := 0) (show decode (cod 143) 0 = .ok (.iload_n 0, 1) by decide +kernel), List.forall_mem_cons.mpr ⟨
  s_iconst (show decode (cod 143) 1 = .ok (.iconst 3, 1) by decide +kernel) rfl, List.forall_mem_cons.mpr ⟨
  s_icmpeq (show decode (cod 143) 2 = .ok (.if_icmp .eq 8, 3) by decide +kernel) (by decide), List.forall_mem_cons.mpr ⟨
  s_iload_n (k := 0) (show decode (cod 143) 5 = .ok (.iload_n 0, 1) by decide +kernel), List.forall_mem_cons.mpr ⟨
  s_iconst (show decode (cod 143) 6 = .ok (.iconst 4, 1) by decide +kernel) rfl, List.forall_mem_cons.mpr ⟨
  s_icmpne (show decode (cod 143) 7 = .ok (.if_icmp .ne 7, 3) by decide +kernel) (by decide), List.forall_mem_cons.mpr ⟨
  s_iconst (show decode (cod 143) 10 = .ok (.iconst 1, 1) by decide +kernel) rfl, List.forall_mem_cons.mpr ⟨
  s_goto (show decode (cod 143) 11 = .ok (.goto 4, 3) by decide +kernel) (by decide), List.forall_mem_cons.mpr ⟨
  s_iconst (show decode (cod 143) 14 = .ok (.iconst 0, 1) by decide +kernel) rfl, List.forall_mem_cons.mpr ⟨
  s_ret (show decode (cod 143) 15 = .ok (.ireturn, 1) by decide +kernel) rZ_ok (fun _ => rZ_b), fun _ h => by cases h⟩⟩⟩⟩⟩⟩⟩⟩⟩⟩
set_option maxRecDepth 100000 in
theorem si143 (X : CX) (l : Launch) : ∀ q ∈ pt143, SI X l 143 q.1 q.2 :=  si143_0 X l
set_option maxRecDepth 100000 in
set_option maxHeartbeats 4000000 in
theorem si144_0 (X : CX) (l : Launch) : ∀ q ∈ ([(0, iP 1 (fAld 0)), (1, iP 2 (fIld 1)), (2, iP 3 (fIld 2)), (3, iCK 6 12 141 3 3 1), (6, iB 9 21 (b1 (fun x => decide (x = 0)))), (9, iP 10 (fIld 3)), (10, iP 11 fI2l), (11, iP 12 (fK (.inr (.inl 0)))), (12, iP 15 (fK (.inr (.inl 5)))), (15, iC 18 130 6 3 1), (18, iB 21 24 (b1 (fun x => decide (x ≠ 0)))), (21, iP 23 (fK (.inl (-1000001)))), (23, iRet rI), (24, iP 25 (fAld 0)), (25, iRR 28 (gtR 52)), (28, iP 30 (fK (.inl 24))), (30, iP 31 (fIld 1)), (31, iP 32 (f2I (fun x y => x * y))), (32, iP 33 (fIld 2)), (33, iP 34 (f2I (fun x y => x + y))), (34, iRI 35 qAI), (35, iC 38 143 1 1 1), (38, iB 41 60 (b1 (fun x => decide (x = 0)))), (41, iP 42 (fAld 0)), (42, iRR 45 (gtR 55)), (45, iP 47 (fK (.inl 12))), (47, iP 49 (fK (.inl 24))), (49, iP 50 (fIld 1)), (50, iP 51 (f2I (fun x y => x * y))), (51, iP 52 (fIld 2)), (52, iP 53 (f2I (fun x y => x + y))), (53, iP 54 (f2I (fun x y => x * y))), (54, iP 55 (fIld 3)), (55, iP 56 (f2I (fun x y => x + y))), (56, iRI 57 qAI), (57, iP 62 fGo), (60, iP 62 (fK (.inl (-1000005)))), (62, iRet rI)] : List (Nat × AS)), SI X l 144 q.1 q.2 := List.forall_mem_cons.mpr ⟨
  s_aload_n (k := 0) (show decode (cod 144) 0 = .ok (.aload_n 0, 1) by decide +kernel), List.forall_mem_cons.mpr ⟨
  s_iload_n (k := 1) (show decode (cod 144) 1 = .ok (.iload_n 1, 1) by decide +kernel), List.forall_mem_cons.mpr ⟨
  s_iload_n (k := 2) (show decode (cod 144) 2 = .ok (.iload_n 2, 1) by decide +kernel), List.forall_mem_cons.mpr ⟨
  s_invK rfl (rcv_virt (show decode (cod 144) 3 = .ok (.invokevirtual 138, 3) by decide +kernel) cld_144_141 ⟨11, _, _, rfl, by decide, rfl⟩ wd_665 wd_666 wd_667), List.forall_mem_cons.mpr ⟨
  s_ifeq (show decode (cod 144) 6 = .ok (.ifCond .eq 15, 3) by decide +kernel) (by decide), List.forall_mem_cons.mpr ⟨
  s_iload_n (k := 3) (show decode (cod 144) 9 = .ok (.iload_n 3, 1) by decide +kernel), List.forall_mem_cons.mpr ⟨
  s_i2l (show decode (cod 144) 10 = .ok (.i2l, 1) by decide +kernel), List.forall_mem_cons.mpr ⟨
  s_lconst (show decode (cod 144) 11 = .ok (.lconst 0, 1) by decide +kernel) rfl, List.forall_mem_cons.mpr ⟨
  s_ldc2 (show decode (cod 144) 12 = .ok (.ldc2_w 145, 3) by decide +kernel) wd_671, List.forall_mem_cons.mpr ⟨
  s_invS (show decode (cod 144) 15 = .ok (.invokestatic 100, 3) by decide +kernel) rfl cld_144_130 wd_641 wd_642, List.forall_mem_cons.mpr ⟨
  s_ifne (show decode (cod 144) 18 = .ok (.ifCond .ne 6, 3) by decide +kernel) (by decide), List.forall_mem_cons.mpr ⟨
  s_ldc (show decode (cod 144) 21 = .ok (.ldc 111, 2) by decide +kernel) wd_644, List.forall_mem_cons.mpr ⟨
  s_ret (show decode (cod 144) 23 = .ok (.ireturn, 1) by decide +kernel) rI_ok (fun h => by cases h), List.forall_mem_cons.mpr ⟨
  s_aload_n (k := 0) (show decode (cod 144) 24 = .ok (.aload_n 0, 1) by decide +kernel), List.forall_mem_cons.mpr ⟨
  s_getR (show decode (cod 144) 25 = .ok (.getfield 13, 3) by decide +kernel) wd_608 (Or.inl rfl) rfl, List.forall_mem_cons.mpr ⟨
  s_bipush (show decode (cod 144) 28 = .ok (.bipush 24, 2) by decide +kernel) rfl, List.forall_mem_cons.mpr ⟨
  s_iload_n (k := 1) (show decode (cod 144) 30 = .ok (.iload_n 1, 1) by decide +kernel), List.forall_mem_cons.mpr ⟨
  s_imul (show decode (cod 144) 31 = .ok (.imul, 1) by decide +kernel), List.forall_mem_cons.mpr ⟨
  s_iload_n (k := 2) (show decode (cod 144) 32 = .ok (.iload_n 2, 1) by decide +kernel), List.forall_mem_cons.mpr ⟨
  s_iadd (show decode (cod 144) 33 = .ok (.iadd, 1) by decide +kernel), List.forall_mem_cons.mpr ⟨
  s_iaload (show decode (cod 144) 34 = .ok (.iaload, 1) by decide +kernel), List.forall_mem_cons.mpr ⟨
  s_invS (show decode (cod 144) 35 = .ok (.invokestatic 142, 3) by decide +kernel) rfl cld_144_143 wd_669 wd_670, List.forall_mem_cons.mpr ⟨
  s_ifeq (show decode (cod 144) 38 = .ok (.ifCond .eq 22, 3) by decide +kernel) (by decide), List.forall_mem_cons.mpr ⟨
  s_aload_n (k := 0) (show decode (cod 144) 41 = .ok (.aload_n 0, 1) by decide +kernel), List.forall_mem_cons.mpr ⟨
  s_getR (show decode (cod 144) 42 = .ok (.getfield 22, 3) by decide +kernel) wd_611 (Or.inl rfl) rfl, List.forall_mem_cons.mpr ⟨
  s_bipush (show decode (cod 144) 45 = .ok (.bipush 12, 2) by decide +kernel) rfl, List.forall_mem_cons.mpr ⟨
  s_bipush (show decode (cod 144) 47 = .ok (.bipush 24, 2) by decide +kernel) rfl, List.forall_mem_cons.mpr ⟨
  s_iload_n (k := 1) (show decode (cod 144) 49 = .ok (.iload_n 1, 1) by decide +kernel), List.forall_mem_cons.mpr ⟨
  s_imul (show decode (cod 144) 50 = .ok (.imul, 1) by decide +kernel), List.forall_mem_cons.mpr ⟨
  s_iload_n (k := 2) (show decode (cod 144) 51 = .ok (.iload_n 2, 1) by decide +kernel), List.forall_mem_cons.mpr ⟨
  s_iadd (show decode (cod 144) 52 = .ok (.iadd, 1) by decide +kernel), List.forall_mem_cons.mpr ⟨
  s_imul (show decode (cod 144) 53 = .ok (.imul, 1) by decide +kernel), List.forall_mem_cons.mpr ⟨
  s_iload_n (k := 3) (show decode (cod 144) 54 = .ok (.iload_n 3, 1) by decide +kernel), List.forall_mem_cons.mpr ⟨
  s_iadd (show decode (cod 144) 55 = .ok (.iadd, 1) by decide +kernel), List.forall_mem_cons.mpr ⟨
  s_iaload (show decode (cod 144) 56 = .ok (.iaload, 1) by decide +kernel), List.forall_mem_cons.mpr ⟨
  s_goto (show decode (cod 144) 57 = .ok (.goto 5, 3) by decide +kernel) (by decide), List.forall_mem_cons.mpr ⟨
  s_ldc (show decode (cod 144) 60 = .ok (.ldc 147, 2) by decide +kernel) wd_672, List.forall_mem_cons.mpr ⟨
  s_ret (show decode (cod 144) 62 = .ok (.ireturn, 1) by decide +kernel) rI_ok (fun h => by cases h), fun _ h => by cases h⟩⟩⟩⟩⟩⟩⟩⟩⟩⟩⟩⟩⟩⟩⟩⟩⟩⟩⟩⟩⟩⟩⟩⟩⟩⟩⟩⟩⟩⟩⟩⟩⟩⟩⟩⟩⟩⟩
set_option maxRecDepth 100000 in
theorem si144 (X : CX) (l : Launch) : ∀ q ∈ pt144, SI X l 144 q.1 q.2 :=  si144_0 X l
set_option maxRecDepth 100000 in
set_option maxHeartbeats 4000000 in
theorem si145_0 (X : CX) (l : Launch) : ∀ q ∈ ([(0, iP 1 (fAld 0)), (1, iP 2 (fIld 1)), (2, iP 3 (fIld 2)), (3, iCK 6 12 141 3 3 1), (6, iB 9 19 (b1 (fun x => decide (x = 0)))), (9, iP 10 (fIld 3)), (10, iP 11 fI2l), (11, iP 12 (fK (.inr (.inl 0)))), (12, iP 13 (fK (.inr (.inl 1)))), (13, iC 16 130 6 3 1), (16, iB 19 22 (b1 (fun x => decide (x ≠ 0)))), (19, iP 21 (fK (.inl (-1000001)))), (21, iRet rI), (22, iP 23 (fAld 0)), (23, iP 24 (fK (.inl 0))), (24, iW 27 (ptI 59)), (27, iP 28 (fIld 3)), (28, iB 31 44 (b1 (fun x => decide (x ≠ 0)))), (31, iP 32 (fAld 0)), (32, iP 34 (fK (.inl 24))), (34, iP 35 (fIld 1)), (35, iP 36 (f2I (fun x y => x * y))), (36, iP 37 (fIld 2)), (37, iP 38 (f2I (fun x y => x + y))), (38, iCK 41 12 146 3 2 1), (41, iP 50 fGo), (44, iP 45 (fAld 0)), (45, iP 46 (fIld 1)), (46, iP 47 (fIld 2)), (47, iCK 50 12 149 5 3 1), (50, iRet rI)] : List (Nat × AS)), SI X l 145 q.1 q.2 := List.forall_mem_cons.mpr ⟨
  s_aload_n (k := 0) (show decode (cod 145) 0 = .ok (.aload_n 0, 1) by decide +kernel), List.forall_mem_cons.mpr ⟨
  s_iload_n (k := 1) (show decode (cod 145) 1 = .ok (.iload_n 1, 1) by decide +kernel), List.forall_mem_cons.mpr ⟨
  s_iload_n (k := 2) (show decode (cod 145) 2 = .ok (.iload_n 2, 1) by decide +kernel), List.forall_mem_cons.mpr ⟨
  s_invK rfl (rcv_virt (show decode (cod 145) 3 = .ok (.invokevirtual 138, 3) by decide +kernel) cld_145_141 ⟨11, _, _, rfl, by decide, rfl⟩ wd_665 wd_666 wd_667), List.forall_mem_cons.mpr ⟨
  s_ifeq (show decode (cod 145) 6 = .ok (.ifCond .eq 13, 3) by decide +kernel) (by decide), List.forall_mem_cons.mpr ⟨
  s_iload_n (k := 3) (show decode (cod 145) 9 = .ok (.iload_n 3, 1) by decide +kernel), List.forall_mem_cons.mpr ⟨
  s_i2l (show decode (cod 145) 10 = .ok (.i2l, 1) by decide +kernel), List.forall_mem_cons.mpr ⟨
  s_lconst (show decode (cod 145) 11 = .ok (.lconst 0, 1) by decide +kernel) rfl, List.forall_mem_cons.mpr ⟨
  s_lconst (show decode (cod 145) 12 = .ok (.lconst 1, 1) by decide +kernel) rfl, List.forall_mem_cons.mpr ⟨
  s_invS (show decode (cod 145) 13 = .ok (.invokestatic 100, 3) by decide +kernel) rfl cld_145_130 wd_641 wd_642, List.forall_mem_cons.mpr ⟨
  s_ifne (show decode (cod 145) 16 = .ok (.ifCond .ne 6, 3) by decide +kernel) (by decide), List.forall_mem_cons.mpr ⟨
  s_ldc (show decode (cod 145) 19 = .ok (.ldc 111, 2) by decide +kernel) wd_644, List.forall_mem_cons.mpr ⟨
  s_ret (show decode (cod 145) 21 = .ok (.ireturn, 1) by decide +kernel) rI_ok (fun h => by cases h), List.forall_mem_cons.mpr ⟨
  s_aload_n (k := 0) (show decode (cod 145) 22 = .ok (.aload_n 0, 1) by decide +kernel), List.forall_mem_cons.mpr ⟨
  s_iconst (show decode (cod 145) 23 = .ok (.iconst 0, 1) by decide +kernel) rfl, List.forall_mem_cons.mpr ⟨
  s_putI (show decode (cod 145) 24 = .ok (.putfield 148, 3) by decide +kernel) wd_673 (Or.inl rfl) (Or.inl rfl) rfl, List.forall_mem_cons.mpr ⟨
  s_iload_n (k := 3) (show decode (cod 145) 27 = .ok (.iload_n 3, 1) by decide +kernel), List.forall_mem_cons.mpr ⟨
  s_ifne (show decode (cod 145) 28 = .ok (.ifCond .ne 16, 3) by decide +kernel) (by decide), List.forall_mem_cons.mpr ⟨
  s_aload_n (k := 0) (show decode (cod 145) 31 = .ok (.aload_n 0, 1) by decide +kernel), List.forall_mem_cons.mpr ⟨
  s_bipush (show decode (cod 145) 32 = .ok (.bipush 24, 2) by decide +kernel) rfl, List.forall_mem_cons.mpr ⟨
  s_iload_n (k := 1) (show decode (cod 145) 34 = .ok (.iload_n 1, 1) by decide +kernel), List.forall_mem_cons.mpr ⟨
  s_imul (show decode (cod 145) 35 = .ok (.imul, 1) by decide +kernel), List.forall_mem_cons.mpr ⟨
  s_iload_n (k := 2) (show decode (cod 145) 36 = .ok (.iload_n 2, 1) by decide +kernel), List.forall_mem_cons.mpr ⟨
  s_iadd (show decode (cod 145) 37 = .ok (.iadd, 1) by decide +kernel), List.forall_mem_cons.mpr ⟨
  s_invK rfl (rcv_virt (show decode (cod 145) 38 = .ok (.invokevirtual 159, 3) by decide +kernel) cld_145_146 ⟨11, _, _, rfl, by decide, rfl⟩ wd_675 wd_676 wd_677), List.forall_mem_cons.mpr ⟨
  s_goto (show decode (cod 145) 41 = .ok (.goto 9, 3) by decide +kernel) (by decide), List.forall_mem_cons.mpr ⟨
  s_aload_n (k := 0) (show decode (cod 145) 44 = .ok (.aload_n 0, 1) by decide +kernel), List.forall_mem_cons.mpr ⟨
  s_iload_n (k := 1) (show decode (cod 145) 45 = .ok (.iload_n 1, 1) by decide +kernel), List.forall_mem_cons.mpr ⟨
  s_iload_n (k := 2) (show decode (cod 145) 46 = .ok (.iload_n 2, 1) by decide +kernel), List.forall_mem_cons.mpr ⟨
  s_invK rfl (rcv_virt (show decode (cod 145) 47 = .ok (.invokevirtual 163, 3) by decide +kernel) cld_145_149 ⟨11, _, _, rfl, by decide, rfl⟩ wd_679 wd_680 wd_681), List.forall_mem_cons.mpr ⟨
  s_ret (show decode (cod 145) 50 = .ok (.ireturn, 1) by decide +kernel) rI_ok (fun h => by cases h), fun _ h => by cases h⟩⟩⟩⟩⟩⟩⟩⟩⟩⟩⟩⟩⟩⟩⟩⟩⟩⟩⟩⟩⟩⟩⟩⟩⟩⟩⟩⟩⟩⟩⟩
set_option maxRecDepth 100000 in
theorem si145 (X : CX) (l : Launch) : ∀ q ∈ pt145, SI X l 145 q.1 q.2 :=  si145_0 X l
set_option maxRecDepth 100000 in
set_option maxHeartbeats 4000000 in
theorem si146_0 (X : CX) (l : Launch) : ∀ q ∈ ([(0, iP 1 (fAld 0)), (1, iRR 4 (gtR 52)), (4, iP 5 (fIld 1)), (5, iRI 6 qAI), (6, iP 7 (fIst 2)), (7, iP 8 (fIld 2)), (8, iP 9 (fK (.inl 1))), (9, iB 12 25 (b2 (fun x y => decide (x ≠ y)))), (12, iP 13 (fAld 0)), (13, iP 15 (fK (.inl 13))), (15, iCK 18 12 147 2 2 0), (18, iP 19 (fAld 0)), (19, iRR 22 (gtR 53)), (22, iP 23 (fIld 1)), (23, iRI 24 qAI), (24, iRet rI), (25, iP 26 (fIld 2)), (26, iP 27 (fK (.inl 4))), (27, iB 30 36 (b2 (fun x y => decide (x ≠ y)))), (30, iP 31 (fAld 0)), (31, iP 33 (fK (.inl 12))), (33, iCK 36 12 147 2 2 0), (36, iP 37 (fIld 2)), (37, iC 40 143 1 1 1), (40, iB 43 49 (b1 (fun x => decide (x = 0)))), (43, iP 44 (fAld 0)), (44, iP 46 (fK (.inl 11))), (46, iCK 49 12 147 2 2 0), (49, iP 50 (fAld 0)), (50, iP 52 (fK (.inl 10))), (52, iCK 55 12 147 2 2 0), (55, iP 56 (fK (.inl 1))), (56, iP 57 (fIld 2)), (57, iC 60 143 1 1 1), (60, iB 63 72 (b1 (fun x => decide (x = 0)))), (63, iP 64 (fAld 0)), (64, iP 65 (fIld 1)), (65, iP 66 (fK (.inl 0))), (66, iCK 69 12 148 5 3 1), (69, iP 73 fGo)] : List (Nat × AS)), SI X l 146 q.1 q.2 := List.forall_mem_cons.mpr ⟨
  s_aload_n (k := 0) (show decode (cod 146) 0 = .ok (.aload_n 0, 1) by decide +kernel), List.forall_mem_cons.mpr ⟨
  s_getR (show decode (cod 146) 1 = .ok (.getfield 13, 3) by decide +kernel) wd_608 (Or.inl rfl) rfl, List.forall_mem_cons.mpr ⟨
  s_iload_n (k := 1) (show decode (cod 146) 4 = .ok (.iload_n 1, 1) by decide +kernel), List.forall_mem_cons.mpr ⟨
  s_iaload (show decode (cod 146) 5 = .ok (.iaload, 1) by decide +kernel), List.forall_mem_cons.mpr ⟨
  s_istore_n (k := 2) (show decode (cod 146) 6 = .ok (.istore_n 2, 1) by decide +kernel), List.forall_mem_cons.mpr ⟨
  s_iload_n (k := 2) (show decode (cod 146) 7 = .ok (.iload_n 2, 1) by decide +kernel), List.forall_mem_cons.mpr ⟨
  s_iconst (show decode (cod 146) 8 = .ok (.iconst 1, 1) by decide +kernel) rfl, List.forall_mem_cons.mpr ⟨
  s_icmpne (show decode (cod 146) 9 = .ok (.if_icmp .ne 16, 3) by decide +kernel) (by decide), List.forall_mem_cons.mpr ⟨
  s_aload_n (k := 0) (show decode (cod 146) 12 = .ok (.aload_n 0, 1) by decide +kernel), List.forall_mem_cons.mpr ⟨
  s_bipush (show decode (cod 146) 13 = .ok (.bipush 13, 2) by decide +kernel) rfl, List.forall_mem_cons.mpr ⟨
  s_invK rfl (rcv_virt (show decode (cod 146) 15 = .ok (.invokevirtual 151, 3) by decide +kernel) cld_146_147 ⟨11, _, _, rfl, by decide, rfl⟩ wd_683 wd_684 wd_685), List.forall_mem_cons.mpr ⟨
  s_aload_n (k := 0) (show decode (cod 146) 18 = .ok (.aload_n 0, 1) by decide +kernel), List.forall_mem_cons.mpr ⟨
  s_getR (show decode (cod 146) 19 = .ok (.getfield 16, 3) by decide +kernel) wd_609 (Or.inl rfl) rfl, List.forall_mem_cons.mpr ⟨
  s_iload_n (k := 1) (show decode (cod 146) 22 = .ok (.iload_n 1, 1) by decide +kernel), List.forall_mem_cons.mpr ⟨
  s_iaload (show decode (cod 146) 23 = .ok (.iaload, 1) by decide +kernel), List.forall_mem_cons.mpr ⟨
  s_ret (show decode (cod 146) 24 = .ok (.ireturn, 1) by decide +kernel) rI_ok (fun h => by cases h), List.forall_mem_cons.mpr ⟨
  s_iload_n (k := 2) (show decode (cod 146) 25 = .ok (.iload_n 2, 1) by decide +kernel), List.forall_mem_cons.mpr ⟨
  s_iconst (show decode (cod 146) 26 = .ok (.iconst 4, 1) by decide +kernel) rfl, List.forall_mem_cons.mpr ⟨
  s_icmpne (show decode (cod 146) 27 = .ok (.if_icmp .ne 9, 3) by decide +kernel) (by decide), List.forall_mem_cons.mpr ⟨
  s_aload_n (k := 0) (show decode (cod 146) 30 = .ok (.aload_n 0, 1) by decide +kernel), List.forall_mem_cons.mpr ⟨
  s_bipush (show decode (cod 146) 31 = .ok (.bipush 12, 2) by decide +kernel) rfl, List.forall_mem_cons.mpr ⟨
  s_invK rfl (rcv_virt (show decode (cod 146) 33 = .ok (.invokevirtual 151, 3) by decide +kernel) cld_146_147 ⟨11, _, _, rfl, by decide, rfl⟩ wd_683 wd_684 wd_685), List.forall_mem_cons.mpr ⟨
  s_iload_n (k := 2) (show decode (cod 146) 36 = .ok (.iload_n 2, 1) by decide +kernel), List.forall_mem_cons.mpr ⟨
  s_invS (show decode (cod 146) 37 = .ok (.invokestatic 142, 3) by decide +kernel) rfl cld_146_143 wd_669 wd_670, List.forall_mem_cons.mpr ⟨
  s_ifeq (show decode (cod 146) 40 = .ok (.ifCond .eq 9, 3) by decide +kernel) (by decide), List.forall_mem_cons.mpr ⟨
  s_aload_n (k := 0) (show decode (cod 146) 43 = .ok (.aload_n 0, 1) by decide +kernel), List.forall_mem_cons.mpr ⟨
  s_bipush (show decode (cod 146) 44 = .ok (.bipush 11, 2) by decide +kernel) rfl, List.forall_mem_cons.mpr ⟨
  s_invK rfl (rcv_virt (show decode (cod 146) 46 = .ok (.invokevirtual 151, 3) by decide +kernel) cld_146_147 ⟨11, _, _, rfl, by decide, rfl⟩ wd_683 wd_684 wd_685), List.forall_mem_cons.mpr ⟨
  s_aload_n (k := 0) (show decode (cod 146) 49 = .ok (.aload_n 0, 1) by decide +kernel), List.forall_mem_cons.mpr ⟨
  s_bipush (show decode (cod 146) 50 = .ok (.bipush 10, 2) by decide +kernel) rfl, List.forall_mem_cons.mpr ⟨
  s_invK rfl (rcv_virt (show decode (cod 146) 52 = .ok (.invokevirtual 151, 3) by decide +kernel) cld_146_147 ⟨11, _, _, rfl, by decide, rfl⟩ wd_683 wd_684 wd_685), List.forall_mem_cons.mpr ⟨
  s_iconst (show decode (cod 146) 55 = .ok (.iconst 1, 1) by decide +kernel) rfl, List.forall_mem_cons.mpr ⟨
  s_iload_n (k := 2) (show decode (cod 146) 56 = .ok (.iload_n 2, 1) by decide +kernel), List.forall_mem_cons.mpr ⟨
  s_invS (show decode (cod 146) 57 = .ok (.invokestatic 142, 3) by decide +kernel) rfl cld_146_143 wd_669 wd_670, List.forall_mem_cons.mpr ⟨
  s_ifeq (show decode (cod 146) 60 = .ok (.ifCond .eq 12, 3) by decide +kernel) (by decide), List.forall_mem_cons.mpr ⟨
  s_aload_n (k := 0) (show decode (cod 146) 63 = .ok (.aload_n 0, 1) by decide +kernel), List.forall_mem_cons.mpr ⟨
  s_iload_n (k := 1) (show decode (cod 146) 64 = .ok (.iload_n 1, 1) by decide +kernel), List.forall_mem_cons.mpr ⟨
  s_iconst (show decode (cod 146) 65 = .ok (.iconst 0, 1) by decide +kernel) rfl, List.forall_mem_cons.mpr ⟨
  s_invK rfl (rcv_virt (show decode (cod 146) 66 = .ok (.invokevirtual 155, 3) by decide +kernel) cld_146_148 ⟨11, _, _, rfl, by decide, rfl⟩ wd_687 wd_688 wd_689), List.forall_mem_cons.mpr ⟨
  s_goto (show decode (cod 146) 69 = .ok (.goto 4, 3) by decide +kernel) (by decide), fun _ h => by cases h⟩⟩⟩⟩⟩⟩⟩⟩⟩⟩⟩⟩⟩⟩⟩⟩⟩⟩⟩⟩⟩⟩⟩⟩⟩⟩⟩⟩⟩⟩⟩⟩⟩⟩⟩⟩⟩⟩⟩⟩
set_option maxRecDepth 100000 in
set_option maxHeartbeats 4000000 in
theorem si146_1 (X : CX) (l : Launch) : ∀ q ∈ ([(72, iP 73 (fK (.inl 0))), (73, iP 74 (f2I (fun x y => x + y))), (74, iP 75 (fIld 2)), (75, iP 76 (fK (.inl 4))), (76, iB 79 88 (b2 (fun x y => decide (x ≠ y)))), (79, iP 80 (fAld 0)), (80, iP 81 (fIld 1)), (81, iP 82 (fK (.inl 1))), (82, iCK 85 12 148 5 3 1), (85, iP 89 fGo), (88, iP 89 (fK (.inl 0))), (89, iP 90 (f2I (fun x y => x + y))), (90, iRet rI)] : List (Nat × AS)), SI X l 146 q.1 q.2 := List.forall_mem_cons.mpr ⟨
  s_iconst (show decode (cod 146) 72 = .ok (.iconst 0, 1) by decide +kernel) rfl, List.forall_mem_cons.mpr ⟨
  s_iadd (show decode (cod 146) 73 = .ok (.iadd, 1) by decide +kernel), List.forall_mem_cons.mpr ⟨
  s_iload_n (k := 2) (show decode (cod 146) 74 = .ok (.iload_n 2, 1) by decide +kernel), List.forall_mem_cons.mpr ⟨
  s_iconst (show decode (cod 146) 75 = .ok (.iconst 4, 1) by decide +kernel) rfl, List.forall_mem_cons.mpr ⟨
  s_icmpne (show decode (cod 146) 76 = .ok (.if_icmp .ne 12, 3) by decide +kernel) (by decide), List.forall_mem_cons.mpr ⟨
  s_aload_n (k := 0) (show decode (cod 146) 79 = .ok (.aload_n 0, 1) by decide +kernel), List.forall_mem_cons.mpr ⟨
  s_iload_n (k := 1) (show decode (cod 146) 80 = .ok (.iload_n 1, 1) by decide +kernel), List.forall_mem_cons.mpr ⟨
  s_iconst (show decode (cod 146) 81 = .ok (.iconst 1, 1) by decide +kernel) rfl, List.forall_mem_cons.mpr ⟨
  s_invK rfl (rcv_virt (show decode (cod 146) 82 = .ok (.invokevirtual 155, 3) by decide +kernel) cld_146_148 ⟨11, _, _, rfl, by decide, rfl⟩ wd_687 wd_688 wd_689), List.forall_mem_cons.mpr ⟨
  s_goto (show decode (cod 146) 85 = .ok (.goto 4, 3) by decide +kernel) (by decide), List.forall_mem_cons.mpr ⟨
  s_iconst (show decode (cod 146) 88 = .ok (.iconst 0, 1) by decide +kernel) rfl, List.forall_mem_cons.mpr ⟨
  s_iadd (show decode (cod 146) 89 = .ok (.iadd, 1) by decide +kernel), List.forall_mem_cons.mpr ⟨
  s_ret (show decode (cod 146) 90 = .ok (.ireturn, 1) by decide +kernel) rI_ok (fun h => by cases h), fun _ h => by cases h⟩⟩⟩⟩⟩⟩⟩⟩⟩⟩⟩⟩⟩
set_option maxRecDepth 100000 in
theorem si146 (X : CX) (l : Launch) : ∀ q ∈ pt146, SI X l 146 q.1 q.2 := (List.forall_mem_append (l₁ := _) (l₂ := _)).mpr ⟨si146_0 X l, si146_1 X l⟩
set_option maxRecDepth 100000 in
set_option maxHeartbeats 4000000 in
theorem si147_0 (X : CX) (l : Launch) : ∀ q ∈ ([(0, iP 1 (fAld 0)), (1, iRI 4 (gtI 59)), (4, iP 6 (fK (.inl 16))), (6, iB 9 29 (b2 (fun x y => decide (y ≤ x)))), (9, iP 10 (fAld 0)), (10, iRR 13 (gtR 58)), (13, iP 14 (fAld 0)), (14, iRI 17 (gtI 59)), (17, iP 18 (fIld 1)), (18, iW 19 wAI), (19, iP 20 (fAld 0)), (20, iP 21 fDup), (21, iRI 24 (gtI 59)), (24, iP 25 (fK (.inl 1))), (25, iP 26 (f2I (fun x y => x + y))), (26, iW 29 (ptI 59)), (29, iRet rV)] : List (Nat × AS)), SI X l 147 q.1 q.2 := List.forall_mem_cons.mpr ⟨
  s_aload_n (k := 0) (show decode (cod 147) 0 = .ok (.aload_n 0, 1) by decide +kernel), List.forall_mem_cons.mpr ⟨
  s_getI (show decode (cod 147) 1 = .ok (.getfield 148, 3) by decide +kernel) wd_673 (Or.inl rfl) (Or.inl rfl), List.forall_mem_cons.mpr ⟨
  s_bipush (show decode (cod 147) 4 = .ok (.bipush 16, 2) by decide +kernel) rfl, List.forall_mem_cons.mpr ⟨
  s_icmpge (show decode (cod 147) 6 = .ok (.if_icmp .ge 23, 3) by decide +kernel) (by decide), List.forall_mem_cons.mpr ⟨
  s_aload_n (k := 0) (show decode (cod 147) 9 = .ok (.aload_n 0, 1) by decide +kernel), List.forall_mem_cons.mpr ⟨
  s_getR (show decode (cod 147) 10 = .ok (.getfield 32, 3) by decide +kernel) wd_614 (Or.inl rfl) rfl, List.forall_mem_cons.mpr ⟨
  s_aload_n (k := 0) (show decode (cod 147) 13 = .ok (.aload_n 0, 1) by decide +kernel), List.forall_mem_cons.mpr ⟨
  s_getI (show decode (cod 147) 14 = .ok (.getfield 148, 3) by decide +kernel) wd_673 (Or.inl rfl) (Or.inl rfl), List.forall_mem_cons.mpr ⟨
  s_iload_n (k := 1) (show decode (cod 147) 17 = .ok (.iload_n 1, 1) by decide +kernel), List.forall_mem_cons.mpr ⟨
  s_iastore (show decode (cod 147) 18 = .ok (.iastore, 1) by decide +kernel), List.forall_mem_cons.mpr ⟨
  s_aload_n (k := 0) (show decode (cod 147) 19 = .ok (.aload_n 0, 1) by decide +kernel), List.forall_mem_cons.mpr ⟨
  s_dup (show decode (cod 147) 20 = .ok (.dup, 1) by decide +kernel), List.forall_mem_cons.mpr ⟨
  s_getI (show decode (cod 147) 21 = .ok (.getfield 148, 3) by decide +kernel) wd_673 (Or.inl rfl) (Or.inl rfl), List.forall_mem_cons.mpr ⟨
  s_iconst (show decode (cod 147) 24 = .ok (.iconst 1, 1) by decide +kernel) rfl, List.forall_mem_cons.mpr ⟨
  s_iadd (show decode (cod 147) 25 = .ok (.iadd, 1) by decide +kernel), List.forall_mem_cons.mpr ⟨
  s_putI (show decode (cod 147) 26 = .ok (.putfield 148, 3) by decide +kernel) wd_673 (Or.inl rfl) (Or.inl rfl) rfl, List.forall_mem_cons.mpr ⟨
  s_ret (show decode (cod 147) 29 = .ok (.return_, 1) by decide +kernel) rV_ok (fun h => by cases h), fun _ h => by cases h⟩⟩⟩⟩⟩⟩⟩⟩⟩⟩⟩⟩⟩⟩⟩⟩⟩
set_option maxRecDepth 100000 in
theorem si147 (X : CX) (l : Launch) : ∀ q ∈ pt147, SI X l 147 q.1 q.2 :=  si147_0 X l
set_option maxRecDepth 100000 in
set_option maxHeartbeats 4000000 in
theorem si148_0 (X : CX) (l : Launch) : ∀ q ∈ ([(0, iP 1 (fK (.inl 0))), (1, iP 2 (fIst 3)), (2, iP 3 (fK (.inl 0))), (3, iP 5 (fIst 4)), (5, iP 7 (fIld 4)), (7, iP 9 (fK (.inl 6))), (9, iB 12 46 (b2 (fun x y => decide (y ≤ x)))), (12, iP 13 (fIld 3)), (13, iP 14 (fAld 0)), (14, iRR 17 (gtR 55)), (17, iP 19 (fK (.inl 12))), (19, iP 20 (fIld 1)), (20, iP 21 (f2I (fun x y => x * y))), (21, iP 23 (fK (.inl 6))), (23, iP 24 (fIld 2)), (24, iP 25 (f2I (fun x y => x * y))), (25, iP 26 (f2I (fun x y => x + y))), (26, iP 28 (fIld 4)), (28, iP 29 (f2I (fun x y => x + y))), (29, iRI 30 qAI), (30, iB 33 37 (b1 (fun x => decide (x = 0)))), (33, iP 34 (fK (.inl 1))), (34, iP 38 fGo), (37, iP 38 (fK (.inl 0))), (38, iP 39 (f2I (fun x y => x + y))), (39, iP 40 (fIst 3)), (40, iP 43 (fInc 4 1)), (43, iP 5 fGo), (46, iP 47 (fIld 3)), (47, iRet rI)] : List (Nat × AS)), SI X l 148 q.1 q.2 := List.forall_mem_cons.mpr ⟨
  s_iconst (show decode (cod 148) 0 = .ok (.iconst 0, 1) by decide +kernel) rfl, List.forall_mem_cons.mpr ⟨
  s_istore_n (k := 3) (show decode (cod 148) 1 = .ok (.istore_n 3, 1) by decide +kernel), List.forall_mem_cons.mpr ⟨
  s_iconst (show decode (cod 148) 2 = .ok (.iconst 0, 1) by decide +kernel) rfl, List.forall_mem_cons.mpr ⟨
  s_istore (k := 4) (show decode (cod 148) 3 = .ok (.istore 4, 2) by decide +kernel), List.forall_mem_cons.mpr ⟨
  s_iload (k := 4) (show decode (cod 148) 5 = .ok (.iload 4, 2) by decide +kernel), List.forall_mem_cons.mpr ⟨
  s_bipush (show decode (cod 148) 7 = .ok (.bipush 6, 2) by decide +kernel) rfl, List.forall_mem_cons.mpr ⟨
  s_icmpge (show decode (cod 148) 9 = .ok (.if_icmp .ge 37, 3) by decide +kernel) (by decide), List.forall_mem_cons.mpr ⟨
  s_iload_n (k := 3) (show decode (cod 148) 12 = .ok (.iload_n 3, 1) by decide +kernel), List.forall_mem_cons.mpr ⟨
  s_aload_n (k := 0) (show decode (cod 148) 13 = .ok (.aload_n 0, 1) by decide +kernel), List.forall_mem_cons.mpr ⟨
  s_getR (show decode (cod 148) 14 = .ok (.getfield 22, 3) by decide +kernel) wd_611 (Or.inl rfl) rfl, List.forall_mem_cons.mpr ⟨
  s_bipush (show decode (cod 148) 17 = .ok (.bipush 12, 2) by decide +kernel) rfl, List.forall_mem_cons.mpr ⟨
  s_iload_n (k := 1) (show decode (cod 148) 19 = .ok (.iload_n 1, 1) by decide +kernel), List.forall_mem_cons.mpr ⟨
  s_imul (show decode (cod 148) 20 = .ok (.imul, 1) by decide +kernel), List.forall_mem_cons.mpr ⟨
  s_bipush (show decode (cod 148) 21 = .ok (.bipush 6, 2) by decide +kernel) rfl, List.forall_mem_cons.mpr ⟨
  s_iload_n (k := 2) (show decode (cod 148) 23 = .ok (.iload_n 2, 1) by decide +kernel), List.forall_mem_cons.mpr ⟨
  s_imul (show decode (cod 148) 24 = .ok (.imul, 1) by decide +kernel), List.forall_mem_cons.mpr ⟨
  s_iadd (show decode (cod 148) 25 = .ok (.iadd, 1) by decide +kernel), List.forall_mem_cons.mpr ⟨
  s_iload (k := 4) (show decode (cod 148) 26 = .ok (.iload 4, 2) by decide +kernel), List.forall_mem_cons.mpr ⟨
  s_iadd (show decode (cod 148) 28 = .ok (.iadd, 1) by decide +kernel), List.forall_mem_cons.mpr ⟨
  s_iaload (show decode (cod 148) 29 = .ok (.iaload, 1) by decide +kernel), List.forall_mem_cons.mpr ⟨
  s_ifeq (show decode (cod 148) 30 = .ok (.ifCond .eq 7, 3) by decide +kernel) (by decide), List.forall_mem_cons.mpr ⟨
  s_iconst (show decode (cod 148) 33 = .ok (.iconst 1, 1) by decide +kernel) rfl, List.forall_mem_cons.mpr ⟨
  s_goto (show decode (cod 148) 34 = .ok (.goto 4, 3) by decide +kernel) (by decide), List.forall_mem_cons.mpr ⟨
  s_iconst (show decode (cod 148) 37 = .ok (.iconst 0, 1) by decide +kernel) rfl, List.forall_mem_cons.mpr ⟨
  s_iadd (show decode (cod 148) 38 = .ok (.iadd, 1) by decide +kernel), List.forall_mem_cons.mpr ⟨
  s_istore_n (k := 3) (show decode (cod 148) 39 = .ok (.istore_n 3, 1) by decide +kernel), List.forall_mem_cons.mpr ⟨
  s_iinc (show decode (cod 148) 40 = .ok (.iinc 4 1, 3) by decide +kernel) rfl, List.forall_mem_cons.mpr ⟨
  s_goto (show decode (cod 148) 43 = .ok (.goto (-38), 3) by decide +kernel) (by decide), List.forall_mem_cons.mpr ⟨
  s_iload_n (k := 3) (show decode (cod 148) 46 = .ok (.iload_n 3, 1) by decide +kernel), List.forall_mem_cons.mpr ⟨
  s_ret (show decode (cod 148) 47 = .ok (.ireturn, 1) by decide +kernel) rI_ok (fun h => by cases h), fun _ h => by cases h⟩⟩⟩⟩⟩⟩⟩⟩⟩⟩⟩⟩⟩⟩⟩⟩⟩⟩⟩⟩⟩⟩⟩⟩⟩⟩⟩⟩⟩⟩
set_option maxRecDepth 100000 in
theorem si148 (X : CX) (l : Launch) : ∀ q ∈ pt148, SI X l 148 q.1 q.2 :=  si148_0 X l
set_option maxRecDepth 100000 in
set_option maxHeartbeats 4000000 in
theorem si149_0 (X : CX) (l : Launch) : ∀ q ∈ ([(0, iP 2 (fK (.inl 24))), (2, iP 3 (fIld 1)), (3, iP 4 (f2I (fun x y => x * y))), (4, iP 5 (fIld 2)), (5, iP 6 (f2I (fun x y => x + y))), (6, iP 7 (fIst 3)), (7, iP 8 (fAld 0)), (8, iRR 11 (gtR 52)), (11, iP 12 (fIld 3)), (12, iRI 13 qAI), (13, iP 15 (fIst 4)), (15, iP 17 (fIld 4)), (17, iP 18 (fK (.inl 4))), (18, iB 21 34 (b2 (fun x y => decide (x ≠ y)))), (21, iP 22 (fAld 0)), (22, iP 24 (fK (.inl 23))), (24, iCK 27 12 147 2 2 0), (27, iP 28 (fAld 0)), (28, iRR 31 (gtR 54)), (31, iP 32 (fIld 3)), (32, iRI 33 qAI), (33, iRet rI), (34, iP 36 (fIld 4)), (36, iP 37 (fK (.inl 5))), (37, iB 40 46 (b2 (fun x y => decide (x ≠ y)))), (40, iP 41 (fAld 0)), (41, iP 43 (fK (.inl 24))), (43, iCK 46 12 147 2 2 0), (46, iP 48 (fIld 4)), (48, iP 49 (fK (.inl 3))), (49, iB 52 64 (b2 (fun x y => decide (x ≠ y)))), (52, iP 53 (fAld 0)), (53, iP 55 (fK (.inl 22))), (55, iCK 58 12 147 2 2 0), (58, iP 59 (fAld 0)), (59, iP 61 (fK (.inl 21))), (61, iCK 64 12 147 2 2 0), (64, iP 65 (fAld 0)), (65, iP 67 (fK (.inl 20))), (67, iCK 70 12 147 2 2 0)] : List (Nat × AS)), SI X l 149 q.1 q.2 := List.forall_mem_cons.mpr ⟨
  s_bipush (show decode (cod 149) 0 = .ok (.bipush 24, 2) by decide +kernel) rfl, List.forall_mem_cons.mpr ⟨
  s_iload_n (k := 1) (show decode (cod 149) 2 = .ok (.iload_n 1, 1) by decide +kernel), List.forall_mem_cons.mpr ⟨
  s_imul (show decode (cod 149) 3 = .ok (.imul, 1) by decide +kernel), List.forall_mem_cons.mpr ⟨
  s_iload_n (k := 2) (show decode (cod 149) 4 = .ok (.iload_n 2, 1) by decide +kernel), List.forall_mem_cons.mpr ⟨
  s_iadd (show decode (cod 149) 5 = .ok (.iadd, 1) by decide +kernel), List.forall_mem_cons.mpr ⟨
  s_istore_n (k := 3) (show decode (cod 149) 6 = .ok (.istore_n 3, 1) by decide +kernel), List.forall_mem_cons.mpr ⟨
  s_aload_n (k := 0) (show decode (cod 149) 7 = .ok (.aload_n 0, 1) by decide +kernel), List.forall_mem_cons.mpr ⟨
  s_getR (show decode (cod 149) 8 = .ok (.getfield 13, 3) by decide +kernel) wd_608 (Or.inl rfl) rfl, List.forall_mem_cons.mpr ⟨
  s_iload_n (k := 3) (show decode (cod 149) 11 = .ok (.iload_n 3, 1) by decide +kernel), List.forall_mem_cons.mpr ⟨
  s_iaload (show decode (cod 149) 12 = .ok (.iaload, 1) by decide +kernel), List.forall_mem_cons.mpr ⟨
  s_istore (k := 4) (show decode (cod 149) 13 = .ok (.istore 4, 2) by decide +kernel), List.forall_mem_cons.mpr ⟨
  s_iload (k := 4) (show decode (cod 149) 15 = .ok (.iload 4, 2) by decide +kernel), List.forall_mem_cons.mpr ⟨
  s_iconst (show decode (cod 149) 17 = .ok (.iconst 4, 1) by decide +kernel) rfl, List.forall_mem_cons.mpr ⟨
  s_icmpne (show decode (cod 149) 18 = .ok (.if_icmp .ne 16, 3) by decide +kernel) (by decide), List.forall_mem_cons.mpr ⟨
  s_aload_n (k := 0) (show decode (cod 149) 21 = .ok (.aload_n 0, 1) by decide +kernel), List.forall_mem_cons.mpr ⟨
  s_bipush (show decode (cod 149) 22 = .ok (.bipush 23, 2) by decide +kernel) rfl, List.forall_mem_cons.mpr ⟨
  s_invK rfl (rcv_virt (show decode (cod 149) 24 = .ok (.invokevirtual 151, 3) by decide +kernel) cld_149_147 ⟨11, _, _, rfl, by decide, rfl⟩ wd_683 wd_684 wd_685), List.forall_mem_cons.mpr ⟨
  s_aload_n (k := 0) (show decode (cod 149) 27 = .ok (.aload_n 0, 1) by decide +kernel), List.forall_mem_cons.mpr ⟨
  s_getR (show decode (cod 149) 28 = .ok (.getfield 19, 3) by decide +kernel) wd_610 (Or.inl rfl) rfl, List.forall_mem_cons.mpr ⟨
  s_iload_n (k := 3) (show decode (cod 149) 31 = .ok (.iload_n 3, 1) by decide +kernel), List.forall_mem_cons.mpr ⟨
  s_iaload (show decode (cod 149) 32 = .ok (.iaload, 1) by decide +kernel), List.forall_mem_cons.mpr ⟨
  s_ret (show decode (cod 149) 33 = .ok (.ireturn, 1) by decide +kernel) rI_ok (fun h => by cases h), List.forall_mem_cons.mpr ⟨
  s_iload (k := 4) (show decode (cod 149) 34 = .ok (.iload 4, 2) by decide +kernel), List.forall_mem_cons.mpr ⟨
  s_iconst (show decode (cod 149) 36 = .ok (.iconst 5, 1) by decide +kernel) rfl, List.forall_mem_cons.mpr ⟨
  s_icmpne (show decode (cod 149) 37 = .ok (.if_icmp .ne 9, 3) by decide +kernel) (by decide), List.forall_mem_cons.mpr ⟨
  s_aload_n (k := 0) (show decode (cod 149) 40 = .ok (.aload_n 0, 1) by decide +kernel), List.forall_mem_cons.mpr ⟨
  s_bipush (show decode (cod 149) 41 = .ok (.bipush 24, 2) by decide +kernel) rfl, List.forall_mem_cons.mpr ⟨
  s_invK rfl (rcv_virt (show decode (cod 149) 43 = .ok (.invokevirtual 151, 3) by decide +kernel) cld_149_147 ⟨11, _, _, rfl, by decide, rfl⟩ wd_683 wd_684 wd_685), List.forall_mem_cons.mpr ⟨
  s_iload (k := 4) (show decode (cod 149) 46 = .ok (.iload 4, 2) by decide +kernel), List.forall_mem_cons.mpr ⟨
  s_iconst (show decode (cod 149) 48 = .ok (.iconst 3, 1) by decide +kernel) rfl, List.forall_mem_cons.mpr ⟨
  s_icmpne (show decode (cod 149) 49 = .ok (.if_icmp .ne 15, 3) by decide +kernel) (by decide), List.forall_mem_cons.mpr ⟨
  s_aload_n (k := 0) (show decode (cod 149) 52 = .ok (.aload_n 0, 1) by decide +kernel), List.forall_mem_cons.mpr ⟨
  s_bipush (show decode (cod 149) 53 = .ok (.bipush 22, 2) by decide +kernel) rfl, List.forall_mem_cons.mpr ⟨
  s_invK rfl (rcv_virt (show decode (cod 149) 55 = .ok (.invokevirtual 151, 3) by decide +kernel) cld_149_147 ⟨11, _, _, rfl, by decide, rfl⟩ wd_683 wd_684 wd_685), List.forall_mem_cons.mpr ⟨
  s_aload_n (k := 0) (show decode (cod 149) 58 = .ok (.aload_n 0, 1) by decide +kernel), List.forall_mem_cons.mpr ⟨
  s_bipush (show decode (cod 149) 59 = .ok (.bipush 21, 2) by decide +kernel) rfl, List.forall_mem_cons.mpr ⟨
  s_invK rfl (rcv_virt (show decode (cod 149) 61 = .ok (.invokevirtual 151, 3) by decide +kernel) cld_149_147 ⟨11, _, _, rfl, by decide, rfl⟩ wd_683 wd_684 wd_685), List.forall_mem_cons.mpr ⟨
  s_aload_n (k := 0) (show decode (cod 149) 64 = .ok (.aload_n 0, 1) by decide +kernel), List.forall_mem_cons.mpr ⟨
  s_bipush (show decode (cod 149) 65 = .ok (.bipush 20, 2) by decide +kernel) rfl, List.forall_mem_cons.mpr ⟨
  s_invK rfl (rcv_virt (show decode (cod 149) 67 = .ok (.invokevirtual 151, 3) by decide +kernel) cld_149_147 ⟨11, _, _, rfl, by decide, rfl⟩ wd_683 wd_684 wd_685), fun _ h => by cases h⟩⟩⟩⟩⟩⟩⟩⟩⟩⟩⟩⟩⟩⟩⟩⟩⟩⟩⟩⟩⟩⟩⟩⟩⟩⟩⟩⟩⟩⟩⟩⟩⟩⟩⟩⟩⟩⟩⟩⟩
set_option maxRecDepth 100000 in
set_option maxHeartbeats 4000000 in
theorem si149_1 (X : CX) (l : Launch) : ∀ q ∈ ([(70, iP 72 (fIld 4)), (72, iP 73 (fK (.inl 3))), (73, iB 76 97 (b2 (fun x y => decide (x ≠ y)))), (76, iP 77 (fAld 0)), (77, iP 78 (fIld 1)), (78, iP 79 (fIld 2)), (79, iCK 82 12 135 5 3 0), (82, iP 83 (fIld 2)), (83, iP 84 (fAld 0)), (84, iP 85 (fIld 3)), (85, iCK 88 12 146 3 2 1), (88, iP 89 (f2I (fun x y => x + y))), (89, iP 90 (fAld 0)), (90, iRI 93 (gtI 66)), (93, iP 94 (f2I (fun x y => x + y))), (94, iP 95 (fK (.inl 1))), (95, iP 96 (f2I (fun x y => x + y))), (96, iRet rI), (97, iP 99 (fIld 4)), (99, iP 100 (fK (.inl 5))), (100, iB 103 109 (b2 (fun x y => decide (x ≠ y)))), (103, iP 104 (fK (.inl 2))), (104, iP 105 (fIld 2)), (105, iP 106 (f2I (fun x y => x * y))), (106, iP 110 fGo), (109, iP 110 (fIld 2)), (110, iRet rI)] : List (Nat × AS)), SI X l 149 q.1 q.2 := List.forall_mem_cons.mpr ⟨
  s_iload (k := 4) (show decode (cod 149) 70 = .ok (.iload 4, 2) by decide +kernel), List.forall_mem_cons.mpr ⟨
  s_iconst (show decode (cod 149) 72 = .ok (.iconst 3, 1) by decide +kernel) rfl, List.forall_mem_cons.mpr ⟨
  s_icmpne (show decode (cod 149) 73 = .ok (.if_icmp .ne 24, 3) by decide +kernel) (by decide), List.forall_mem_cons.mpr ⟨
  s_aload_n (k := 0) (show decode (cod 149) 76 = .ok (.aload_n 0, 1) by decide +kernel), List.forall_mem_cons.mpr ⟨
  s_iload_n (k := 1) (show decode (cod 149) 77 = .ok (.iload_n 1, 1) by decide +kernel), List.forall_mem_cons.mpr ⟨
  s_iload_n (k := 2) (show decode (cod 149) 78 = .ok (.iload_n 2, 1) by decide +kernel), List.forall_mem_cons.mpr ⟨
  s_invK rfl (rcv_virt (show decode (cod 149) 79 = .ok (.invokevirtual 129, 3) by decide +kernel) cld_149_135 ⟨11, _, _, rfl, by decide, rfl⟩ wd_656 wd_657 wd_658), List.forall_mem_cons.mpr ⟨
  s_iload_n (k := 2) (show decode (cod 149) 82 = .ok (.iload_n 2, 1) by decide +kernel), List.forall_mem_cons.mpr ⟨
  s_aload_n (k := 0) (show decode (cod 149) 83 = .ok (.aload_n 0, 1) by decide +kernel), List.forall_mem_cons.mpr ⟨
  s_iload_n (k := 3) (show decode (cod 149) 84 = .ok (.iload_n 3, 1) by decide +kernel), List.forall_mem_cons.mpr ⟨
  s_invK rfl (rcv_virt (show decode (cod 149) 85 = .ok (.invokevirtual 159, 3) by decide +kernel) cld_149_146 ⟨11, _, _, rfl, by decide, rfl⟩ wd_675 wd_676 wd_677), List.forall_mem_cons.mpr ⟨
  s_iadd (show decode (cod 149) 88 = .ok (.iadd, 1) by decide +kernel), List.forall_mem_cons.mpr ⟨
  s_aload_n (k := 0) (show decode (cod 149) 89 = .ok (.aload_n 0, 1) by decide +kernel), List.forall_mem_cons.mpr ⟨
  s_getI (show decode (cod 149) 90 = .ok (.getfield 115, 3) by decide +kernel) wd_659 (Or.inl rfl) (Or.inl rfl), List.forall_mem_cons.mpr ⟨
  s_iadd (show decode (cod 149) 93 = .ok (.iadd, 1) by decide +kernel), List.forall_mem_cons.mpr ⟨
  s_iconst (show decode (cod 149) 94 = .ok (.iconst 1, 1) by decide +kernel) rfl, List.forall_mem_cons.mpr ⟨
  s_iadd (show decode (cod 149) 95 = .ok (.iadd, 1) by decide +kernel), List.forall_mem_cons.mpr ⟨
  s_ret (show decode (cod 149) 96 = .ok (.ireturn, 1) by decide +kernel) rI_ok (fun h => by cases h), List.forall_mem_cons.mpr ⟨
  s_iload (k := 4) (show decode (cod 149) 97 = .ok (.iload 4, 2) by decide +kernel), List.forall_mem_cons.mpr ⟨
  s_iconst (show decode (cod 149) 99 = .ok (.iconst 5, 1) by decide +kernel) rfl, List.forall_mem_cons.mpr ⟨
  s_icmpne (show decode (cod 149) 100 = .ok (.if_icmp .ne 9, 3) by decide +kernel) (by decide), List.forall_mem_cons.mpr ⟨
  s_iconst (show decode (cod 149) 103 = .ok (.iconst 2, 1) by decide +kernel) rfl, List.forall_mem_cons.mpr ⟨
  s_iload_n (k := 2) (show decode (cod 149) 104 = .ok (.iload_n 2, 1) by decide +kernel), List.forall_mem_cons.mpr ⟨
  s_imul (show decode (cod 149) 105 = .ok (.imul, 1) by decide +kernel), List.forall_mem_cons.mpr ⟨
  s_goto (show decode (cod 149) 106 = .ok (.goto 4, 3) by decide +kernel) (by decide), List.forall_mem_cons.mpr ⟨
  s_iload_n (k := 2) (show decode (cod 149) 109 = .ok (.iload_n 2, 1) by decide +kernel), List.forall_mem_cons.mpr ⟨
  s_ret (show decode (cod 149) 110 = .ok (.ireturn, 1) by decide +kernel) rI_ok (fun h => by cases h), fun _ h => by cases h⟩⟩⟩⟩⟩⟩⟩⟩⟩⟩⟩⟩⟩⟩⟩⟩⟩⟩⟩⟩⟩⟩⟩⟩⟩⟩⟩
set_option maxRecDepth 100000 in
theorem si149 (X : CX) (l : Launch) : ∀ q ∈ pt149, SI X l 149 q.1 q.2 := (List.forall_mem_append (l₁ := _) (l₂ := _)).mpr ⟨si149_0 X l, si149_1 X l⟩
set_option maxRecDepth 100000 in
set_option maxHeartbeats 4000000 in
theorem si150_0 (X : CX) (l : Launch) : ∀ q ∈ ([(0, iP 1 (fIld 1)), (1, iP 2 fI2l), (2, iP 3 (fK (.inr (.inl 0)))), (3, iP 4 (fAld 0)), (4, iRI 7 (gtI 59)), (7, iP 8 (fK (.inl 1))), (8, iP 9 (f2I (fun x y => x - y))), (9, iP 10 fI2l), (10, iC 13 130 6 3 1), (13, iB 16 25 (b1 (fun x => decide (x = 0)))), (16, iP 17 (fAld 0)), (17, iRR 20 (gtR 58)), (20, iP 21 (fIld 1)), (21, iRI 22 qAI), (22, iP 27 fGo), (25, iP 27 (fK (.inl (-1000000)))), (27, iRet rI)] : List (Nat × AS)), SI X l 150 q.1 q.2 := List.forall_mem_cons.mpr ⟨
  s_iload_n (k := 1) (show decode (cod 150) 0 = .ok (.iload_n 1, 1) by decide +kernel), List.forall_mem_cons.mpr ⟨
  s_i2l (show decode (cod 150) 1 = .ok (.i2l, 1) by decide +kernel), List.forall_mem_cons.mpr ⟨
  s_lconst (show decode (cod 150) 2 = .ok (.lconst 0, 1) by decide +kernel) rfl, List.forall_mem_cons.mpr ⟨
  s_aload_n (k := 0) (show decode (cod 150) 3 = .ok (.aload_n 0, 1) by decide +kernel), List.forall_mem_cons.mpr ⟨
  s_getI (show decode (cod 150) 4 = .ok (.getfield 148, 3) by decide +kernel) wd_673 (Or.inl rfl) (Or.inl rfl), List.forall_mem_cons.mpr ⟨
  s_iconst (show decode (cod 150) 7 = .ok (.iconst 1, 1) by decide +kernel) rfl, List.forall_mem_cons.mpr ⟨
  s_isub (show decode (cod 150) 8 = .ok (.isub, 1) by decide +kernel), List.forall_mem_cons.mpr ⟨
  s_i2l (show decode (cod 150) 9 = .ok (.i2l, 1) by decide +kernel), List.forall_mem_cons.mpr ⟨
  s_invS (show decode (cod 150) 10 = .ok (.invokestatic 100, 3) by decide +kernel) rfl cld_150_130 wd_641 wd_642, List.forall_mem_cons.mpr ⟨
  s_ifeq (show decode (cod 150) 13 = .ok (.ifCond .eq 12, 3) by decide +kernel) (by decide), List.forall_mem_cons.mpr ⟨
  s_aload_n (k := 0) (show decode (cod 150) 16 = .ok (.aload_n 0, 1) by decide +kernel), List.forall_mem_cons.mpr ⟨
  s_getR (show decode (cod 150) 17 = .ok (.getfield 32, 3) by decide +kernel) wd_614 (Or.inl rfl) rfl, List.forall_mem_cons.mpr ⟨
  s_iload_n (k := 1) (show decode (cod 150) 20 = .ok (.iload_n 1, 1) by decide +kernel), List.forall_mem_cons.mpr ⟨
  s_iaload (show decode (cod 150) 21 = .ok (.iaload, 1) by decide +kernel), List.forall_mem_cons.mpr ⟨
  s_goto (show decode (cod 150) 22 = .ok (.goto 5, 3) by decide +kernel) (by decide), List.forall_mem_cons.mpr ⟨
  s_ldc (show decode (cod 150) 25 = .ok (.ldc 124, 2) by decide +kernel) wd_650, List.forall_mem_cons.mpr ⟨
  s_ret (show decode (cod 150) 27 = .ok (.ireturn, 1) by decide +kernel) rI_ok (fun h => by cases h), fun _ h => by cases h⟩⟩⟩⟩⟩⟩⟩⟩⟩⟩⟩⟩⟩⟩⟩⟩⟩
set_option maxRecDepth 100000 in
theorem si150 (X : CX) (l : Launch) : ∀ q ∈ pt150, SI X l 150 q.1 q.2 :=  si150_0 X l
set_option maxRecDepth 100000 in
set_option maxHeartbeats 4000000 in
theorem si151_0 (X : CX) (l : Launch) : ∀ q ∈ ([(0, iP 1 (fAld 0)), (1, iP 2 (fIld 1)), (2, iCK 5 12 132 2 2 1), (5, iB 8 18 (b1 (fun x => decide (x = 0)))), (8, iP 9 (fIld 2)), (9, iP 10 fI2l), (10, iP 11 (fK (.inr (.inl 0)))), (11, iP 12 (fK (.inr (.inl 1)))), (12, iC 15 130 6 3 1), (15, iB 18 21 (b1 (fun x => decide (x ≠ 0)))), (18, iP 20 (fK (.inl (-1000001)))), (20, iRet rI), (21, iP 22 (fAld 0)), (22, iP 23 (fIld 1)), (23, iP 24 (fIld 2)), (24, iCK 27 12 152 3 3 1), (27, iP 28 (fIst 3)), (28, iP 29 (fIld 3)), (29, iB 32 36 (b1 (fun x => decide (x = 0)))), (32, iP 33 (fIld 3)), (33, iP 45 fGo), (36, iP 37 (fAld 0)), (37, iP 38 (fK (.inl 2))), (38, iP 39 (fIld 1)), (39, iP 40 (f2I (fun x y => x * y))), (40, iP 41 (fIld 2)), (41, iP 42 (f2I (fun x y => x + y))), (42, iCK 45 12 164 4 2 1), (45, iRet rI)] : List (Nat × AS)), SI X l 151 q.1 q.2 := List.forall_mem_cons.mpr ⟨
  s_aload_n (k := 0) (show decode (cod 151) 0 = .ok (.aload_n 0, 1) by decide +kernel), List.forall_mem_cons.mpr ⟨
  s_iload_n (k := 1) (show decode (cod 151) 1 = .ok (.iload_n 1, 1) by decide +kernel), List.forall_mem_cons.mpr ⟨
  s_invK rfl (rcv_virt (show decode (cod 151) 2 = .ok (.invokevirtual 118, 3) by decide +kernel) cld_151_132 ⟨11, _, _, rfl, by decide, rfl⟩ wd_646 wd_647 wd_648), List.forall_mem_cons.mpr ⟨
  s_ifeq (show decode (cod 151) 5 = .ok (.ifCond .eq 13, 3) by decide +kernel) (by decide), List.forall_mem_cons.mpr ⟨
  s_iload_n (k := 2) (show decode (cod 151) 8 = .ok (.iload_n 2, 1) by decide +kernel), List.forall_mem_cons.mpr ⟨
  s_i2l (show decode (cod 151) 9 = .ok (.i2l, 1) by decide +kernel), List.forall_mem_cons.mpr ⟨
  s_lconst (show decode (cod 151) 10 = .ok (.lconst 0, 1) by decide +kernel) rfl, List.forall_mem_cons.mpr ⟨
  s_lconst (show decode (cod 151) 11 = .ok (.lconst 1, 1) by decide +kernel) rfl, List.forall_mem_cons.mpr ⟨
  s_invS (show decode (cod 151) 12 = .ok (.invokestatic 100, 3) by decide +kernel) rfl cld_151_130 wd_641 wd_642, List.forall_mem_cons.mpr ⟨
  s_ifne (show decode (cod 151) 15 = .ok (.ifCond .ne 6, 3) by decide +kernel) (by decide), List.forall_mem_cons.mpr ⟨
  s_ldc (show decode (cod 151) 18 = .ok (.ldc 111, 2) by decide +kernel) wd_644, List.forall_mem_cons.mpr ⟨
  s_ret (show decode (cod 151) 20 = .ok (.ireturn, 1) by decide +kernel) rI_ok (fun h => by cases h), List.forall_mem_cons.mpr ⟨
  s_aload_n (k := 0) (show decode (cod 151) 21 = .ok (.aload_n 0, 1) by decide +kernel), List.forall_mem_cons.mpr ⟨
  s_iload_n (k := 1) (show decode (cod 151) 22 = .ok (.iload_n 1, 1) by decide +kernel), List.forall_mem_cons.mpr ⟨
  s_iload_n (k := 2) (show decode (cod 151) 23 = .ok (.iload_n 2, 1) by decide +kernel), List.forall_mem_cons.mpr ⟨
  s_invK rfl (rcv_virt (show decode (cod 151) 24 = .ok (.invokevirtual 209, 3) by decide +kernel) cld_151_152 ⟨11, _, _, rfl, by decide, rfl⟩ wd_691 wd_692 wd_693), List.forall_mem_cons.mpr ⟨
  s_istore_n (k := 3) (show decode (cod 151) 27 = .ok (.istore_n 3, 1) by decide +kernel), List.forall_mem_cons.mpr ⟨
  s_iload_n (k := 3) (show decode (cod 151) 28 = .ok (.iload_n 3, 1) by decide +kernel), List.forall_mem_cons.mpr ⟨
  s_ifeq (show decode (cod 151) 29 = .ok (.ifCond .eq 7, 3) by decide +kernel) (by decide), List.forall_mem_cons.mpr ⟨
  s_iload_n (k := 3) (show decode (cod 151) 32 = .ok (.iload_n 3, 1) by decide +kernel), List.forall_mem_cons.mpr ⟨
  s_goto (show decode (cod 151) 33 = .ok (.goto 12, 3) by decide +kernel) (by decide), List.forall_mem_cons.mpr ⟨
  s_aload_n (k := 0) (show decode (cod 151) 36 = .ok (.aload_n 0, 1) by decide +kernel), List.forall_mem_cons.mpr ⟨
  s_iconst (show decode (cod 151) 37 = .ok (.iconst 2, 1) by decide +kernel) rfl, List.forall_mem_cons.mpr ⟨
  s_iload_n (k := 1) (show decode (cod 151) 38 = .ok (.iload_n 1, 1) by decide +kernel), List.forall_mem_cons.mpr ⟨
  s_imul (show decode (cod 151) 39 = .ok (.imul, 1) by decide +kernel), List.forall_mem_cons.mpr ⟨
  s_iload_n (k := 2) (show decode (cod 151) 40 = .ok (.iload_n 2, 1) by decide +kernel), List.forall_mem_cons.mpr ⟨
  s_iadd (show decode (cod 151) 41 = .ok (.iadd, 1) by decide +kernel), List.forall_mem_cons.mpr ⟨
  s_invK rfl (rcv_virt (show decode (cod 151) 42 = .ok (.invokevirtual 212, 3) by decide +kernel) cld_151_164 ⟨11, _, _, rfl, by decide, rfl⟩ wd_695 wd_696 wd_697), List.forall_mem_cons.mpr ⟨
  s_ret (show decode (cod 151) 45 = .ok (.ireturn, 1) by decide +kernel) rI_ok (fun h => by cases h), fun _ h => by cases h⟩⟩⟩⟩⟩⟩⟩⟩⟩⟩⟩⟩⟩⟩⟩⟩⟩⟩⟩⟩⟩⟩⟩⟩⟩⟩⟩⟩⟩
set_option maxRecDepth 100000 in
theorem si151 (X : CX) (l : Launch) : ∀ q ∈ pt151, SI X l 151 q.1 q.2 :=  si151_0 X l
set_option maxRecDepth 100000 in
set_option maxHeartbeats 4000000 in
theorem si152_0 (X : CX) (l : Launch) : ∀ q ∈ ([(0, iP 1 (fAld 0)), (1, iCK 4 12 153 3 1 0), (4, iP 5 (fAld 0)), (5, iRR 8 (gtR 68)), (8, iP 9 (fIld 1)), (9, iRI 10 qAZ), (10, iB 13 18 (b1 (fun x => decide (x ≠ 0)))), (13, iP 15 (fK (.inl (-1000002)))), (15, iP 37 fGo), (18, iP 19 (fAld 0)), (19, iRR 22 (gtR 70)), (22, iP 23 (fK (.inl 2))), (23, iP 24 (fIld 1)), (24, iP 25 (f2I (fun x y => x * y))), (25, iP 26 (fIld 2)), (26, iP 27 (f2I (fun x y => x + y))), (27, iRI 28 qAZ), (28, iB 31 36 (b1 (fun x => decide (x = 0)))), (31, iP 33 (fK (.inl (-1000003)))), (33, iP 37 fGo), (36, iP 37 (fK (.inl 0))), (37, iRet rI)] : List (Nat × AS)), SI X l 152 q.1 q.2 := List.forall_mem_cons.mpr ⟨
  s_aload_n (k := 0) (show decode (cod 152) 0 = .ok (.aload_n 0, 1) by decide +kernel), List.forall_mem_cons.mpr ⟨
  s_invK rfl (rcv_virt (show decode (cod 152) 1 = .ok (.invokevirtual 206, 3) by decide +kernel) cld_152_153 ⟨11, _, _, rfl, by decide, rfl⟩ wd_699 wd_700 wd_701), List.forall_mem_cons.mpr ⟨
  s_aload_n (k := 0) (show decode (cod 152) 4 = .ok (.aload_n 0, 1) by decide +kernel), List.forall_mem_cons.mpr ⟨
  s_getR (show decode (cod 152) 5 = .ok (.getfield 51, 3) by decide +kernel) wd_621 (Or.inl rfl) rfl, List.forall_mem_cons.mpr ⟨
  s_iload_n (k := 1) (show decode (cod 152) 8 = .ok (.iload_n 1, 1) by decide +kernel), List.forall_mem_cons.mpr ⟨
  s_baload (show decode (cod 152) 9 = .ok (.baload, 1) by decide +kernel), List.forall_mem_cons.mpr ⟨
  s_ifne (show decode (cod 152) 10 = .ok (.ifCond .ne 8, 3) by decide +kernel) (by decide), List.forall_mem_cons.mpr ⟨
  s_ldc (show decode (cod 152) 13 = .ok (.ldc 133, 2) by decide +kernel) wd_660, List.forall_mem_cons.mpr ⟨
  s_goto (show decode (cod 152) 15 = .ok (.goto 22, 3) by decide +kernel) (by decide), List.forall_mem_cons.mpr ⟨
  s_aload_n (k := 0) (show decode (cod 152) 18 = .ok (.aload_n 0, 1) by decide +kernel), List.forall_mem_cons.mpr ⟨
  s_getR (show decode (cod 152) 19 = .ok (.getfield 58, 3) by decide +kernel) wd_623 (Or.inl rfl) rfl, List.forall_mem_cons.mpr ⟨
  s_iconst (show decode (cod 152) 22 = .ok (.iconst 2, 1) by decide +kernel) rfl, List.forall_mem_cons.mpr ⟨
  s_iload_n (k := 1) (show decode (cod 152) 23 = .ok (.iload_n 1, 1) by decide +kernel), List.forall_mem_cons.mpr ⟨
  s_imul (show decode (cod 152) 24 = .ok (.imul, 1) by decide +kernel), List.forall_mem_cons.mpr ⟨
  s_iload_n (k := 2) (show decode (cod 152) 25 = .ok (.iload_n 2, 1) by decide +kernel), List.forall_mem_cons.mpr ⟨
  s_iadd (show decode (cod 152) 26 = .ok (.iadd, 1) by decide +kernel), List.forall_mem_cons.mpr ⟨
  s_baload (show decode (cod 152) 27 = .ok (.baload, 1) by decide +kernel), List.forall_mem_cons.mpr ⟨
  s_ifeq (show decode (cod 152) 28 = .ok (.ifCond .eq 8, 3) by decide +kernel) (by decide), List.forall_mem_cons.mpr ⟨
  s_ldc (show decode (cod 152) 31 = .ok (.ldc 104, 2) by decide +kernel) wd_637, List.forall_mem_cons.mpr ⟨
  s_goto (show decode (cod 152) 33 = .ok (.goto 4, 3) by decide +kernel) (by decide), List.forall_mem_cons.mpr ⟨
  s_iconst (show decode (cod 152) 36 = .ok (.iconst 0, 1) by decide +kernel) rfl, List.forall_mem_cons.mpr ⟨
  s_ret (show decode (cod 152) 37 = .ok (.ireturn, 1) by decide +kernel) rI_ok (fun h => by cases h), fun _ h => by cases h⟩⟩⟩⟩⟩⟩⟩⟩⟩⟩⟩⟩⟩⟩⟩⟩⟩⟩⟩⟩⟩⟩
set_option maxRecDepth 100000 in
theorem si152 (X : CX) (l : Launch) : ∀ q ∈ pt152, SI X l 152 q.1 q.2 :=  si152_0 X l
set_option maxRecDepth 100000 in
set_option maxHeartbeats 4000000 in
theorem si153_0 (X : CX) (l : Launch) : ∀ q ∈ ([(0, iP 1 (fAld 0)), (1, iRI 4 (gtI 60)), (4, iB 7 8 (b1 (fun x => decide (x = 0)))), (7, iRet rV), (8, iP 9 (fAld 0)), (9, iP 10 (fK (.inl 1))), (10, iW 13 (ptZ 60)), (13, iP 14 (fK (.inl 0))), (14, iP 15 (fIst 1)), (15, iP 16 (fIld 1)), (16, iP 17 (fAld 0)), (17, iRI 20 (gtI 50)), (20, iB 23 194 (b2 (fun x y => decide (y ≤ x)))), (23, iP 24 (fAld 0)), (24, iP 25 (fIld 1)), (25, iP 26 (fAld 0)), (26, iRR 29 (gtR 51)), (29, iP 30 (fIld 1)), (30, iRI 31 qAI), (31, iCK 34 12 135 5 3 0), (34, iP 35 (fAld 0)), (35, iRR 38 (gtR 69)), (38, iP 39 (fIld 1)), (39, iP 40 (fAld 0)), (40, iRI 43 (gtI 63)), (43, iB 46 50 (b1 (fun x => decide (x ≠ 0)))), (46, iP 47 (fK (.inl 1))), (47, iP 51 fGo), (50, iP 51 (fK (.inl 0))), (51, iW 52 wAZ), (52, iP 53 (fAld 0)), (53, iRR 56 (gtR 68)), (56, iP 57 (fIld 1)), (57, iP 58 (fAld 0)), (58, iRI 61 (gtI 63)), (61, iB 64 68 (b1 (fun x => decide (x ≠ 0)))), (64, iP 65 (fK (.inl 1))), (65, iP 69 fGo), (68, iP 69 (fK (.inl 0))), (69, iW 70 wAZ)] : List (Nat × AS)), SI X l 153 q.1 q.2 := List.forall_mem_cons.mpr ⟨
  s_aload_n (k := 0) (show decode (cod 153) 0 = .ok (.aload_n 0, 1) by decide +kernel), List.forall_mem_cons.mpr ⟨
  s_getI (show decode (cod 153) 1 = .ok (.getfield 105, 3) by decide +kernel) wd_638 (Or.inl rfl) (Or.inr rfl), List.forall_mem_cons.mpr ⟨
  s_ifeq (show decode (cod 153) 4 = .ok (.ifCond .eq 4, 3) by decide +kernel) (by decide), List.forall_mem_cons.mpr ⟨
  s_ret (show decode (cod 153) 7 = .ok (.return_, 1) by decide +kernel) rV_ok (fun h => by cases h), List.forall_mem_cons.mpr ⟨
  s_aload_n (k := 0) (show decode (cod 153) 8 = .ok (.aload_n 0, 1) by decide +kernel), List.forall_mem_cons.mpr ⟨
  s_iconst (show decode (cod 153) 9 = .ok (.iconst 1, 1) by decide +kernel) rfl, List.forall_mem_cons.mpr ⟨
  s_putZ (show decode (cod 153) 10 = .ok (.putfield 105, 3) by decide +kernel) wd_638 (Or.inl rfl) (Or.inl rfl) rfl, List.forall_mem_cons.mpr ⟨
  s_iconst (show decode (cod 153) 13 = .ok (.iconst 0, 1) by decide +kernel) rfl, List.forall_mem_cons.mpr ⟨
  s_istore_n (k := 1) (show decode (cod 153) 14 = .ok (.istore_n 1, 1) by decide +kernel), List.forall_mem_cons.mpr ⟨
  s_iload_n (k := 1) (show decode (cod 153) 15 = .ok (.iload_n 1, 1) by decide +kernel), List.forall_mem_cons.mpr ⟨
  s_aload_n (k := 0) (show decode (cod 153) 16 = .ok (.aload_n 0, 1) by decide +kernel), List.forall_mem_cons.mpr ⟨
  s_getI (show decode (cod 153) 17 = .ok (.getfield 97, 3) by decide +kernel) wd_636 (Or.inl rfl) (Or.inl rfl), List.forall_mem_cons.mpr ⟨
  s_icmpge (show decode (cod 153) 20 = .ok (.if_icmp .ge 174, 3) by decide +kernel) (by decide), List.forall_mem_cons.mpr ⟨
  s_aload_n (k := 0) (show decode (cod 153) 23 = .ok (.aload_n 0, 1) by decide +kernel), List.forall_mem_cons.mpr ⟨
  s_iload_n (k := 1) (show decode (cod 153) 24 = .ok (.iload_n 1, 1) by decide +kernel), List.forall_mem_cons.mpr ⟨
  s_aload_n (k := 0) (show decode (cod 153) 25 = .ok (.aload_n 0, 1) by decide +kernel), List.forall_mem_cons.mpr ⟨
  s_getR (show decode (cod 153) 26 = .ok (.getfield 7, 3) by decide +kernel) wd_607 (Or.inl rfl) rfl, List.forall_mem_cons.mpr ⟨
  s_iload_n (k := 1) (show decode (cod 153) 29 = .ok (.iload_n 1, 1) by decide +kernel), List.forall_mem_cons.mpr ⟨
  s_iaload (show decode (cod 153) 30 = .ok (.iaload, 1) by decide +kernel), List.forall_mem_cons.mpr ⟨
  s_invK rfl (rcv_virt (show decode (cod 153) 31 = .ok (.invokevirtual 129, 3) by decide +kernel) cld_153_135 ⟨11, _, _, rfl, by decide, rfl⟩ wd_656 wd_657 wd_658), List.forall_mem_cons.mpr ⟨
  s_aload_n (k := 0) (show decode (cod 153) 34 = .ok (.aload_n 0, 1) by decide +kernel), List.forall_mem_cons.mpr ⟨
  s_getR (show decode (cod 153) 35 = .ok (.getfield 55, 3) by decide +kernel) wd_622 (Or.inl rfl) rfl, List.forall_mem_cons.mpr ⟨
  s_iload_n (k := 1) (show decode (cod 153) 38 = .ok (.iload_n 1, 1) by decide +kernel), List.forall_mem_cons.mpr ⟨
  s_aload_n (k := 0) (show decode (cod 153) 39 = .ok (.aload_n 0, 1) by decide +kernel), List.forall_mem_cons.mpr ⟨
  s_getI (show decode (cod 153) 40 = .ok (.getfield 112, 3) by decide +kernel) wd_661 (Or.inl rfl) (Or.inl rfl), List.forall_mem_cons.mpr ⟨
  s_ifne (show decode (cod 153) 43 = .ok (.ifCond .ne 7, 3) by decide +kernel) (by decide), List.forall_mem_cons.mpr ⟨
  s_iconst (show decode (cod 153) 46 = .ok (.iconst 1, 1) by decide +kernel) rfl, List.forall_mem_cons.mpr ⟨
  s_goto (show decode (cod 153) 47 = .ok (.goto 4, 3) by decide +kernel) (by decide), List.forall_mem_cons.mpr ⟨
  s_iconst (show decode (cod 153) 50 = .ok (.iconst 0, 1) by decide +kernel) rfl, List.forall_mem_cons.mpr ⟨
  s_bastore (show decode (cod 153) 51 = .ok (.bastore, 1) by decide +kernel), List.forall_mem_cons.mpr ⟨
  s_aload_n (k := 0) (show decode (cod 153) 52 = .ok (.aload_n 0, 1) by decide +kernel), List.forall_mem_cons.mpr ⟨
  s_getR (show decode (cod 153) 53 = .ok (.getfield 51, 3) by decide +kernel) wd_621 (Or.inl rfl) rfl, List.forall_mem_cons.mpr ⟨
  s_iload_n (k := 1) (show decode (cod 153) 56 = .ok (.iload_n 1, 1) by decide +kernel), List.forall_mem_cons.mpr ⟨
  s_aload_n (k := 0) (show decode (cod 153) 57 = .ok (.aload_n 0, 1) by decide +kernel), List.forall_mem_cons.mpr ⟨
  s_getI (show decode (cod 153) 58 = .ok (.getfield 112, 3) by decide +kernel) wd_661 (Or.inl rfl) (Or.inl rfl), List.forall_mem_cons.mpr ⟨
  s_ifne (show decode (cod 153) 61 = .ok (.ifCond .ne 7, 3) by decide +kernel) (by decide), List.forall_mem_cons.mpr ⟨
  s_iconst (show decode (cod 153) 64 = .ok (.iconst 1, 1) by decide +kernel) rfl, List.forall_mem_cons.mpr ⟨
  s_goto (show decode (cod 153) 65 = .ok (.goto 4, 3) by decide +kernel) (by decide), List.forall_mem_cons.mpr ⟨
  s_iconst (show decode (cod 153) 68 = .ok (.iconst 0, 1) by decide +kernel) rfl, List.forall_mem_cons.mpr ⟨
  s_bastore (show decode (cod 153) 69 = .ok (.bastore, 1) by decide +kernel), fun _ h => by cases h⟩⟩⟩⟩⟩⟩⟩⟩⟩⟩⟩⟩⟩⟩⟩⟩⟩⟩⟩⟩⟩⟩⟩⟩⟩⟩⟩⟩⟩⟩⟩⟩⟩⟩⟩⟩⟩⟩⟩⟩
set_option maxRecDepth 100000 in
set_option maxHeartbeats 4000000 in
theorem si153_1 (X : CX) (l : Launch) : ∀ q ∈ ([(70, iP 71 (fK (.inl 0))), (71, iP 72 (fIst 2)), (72, iP 73 (fIld 2)), (73, iP 74 (fAld 0)), (74, iRR 77 (gtR 51)), (77, iP 78 (fIld 1)), (78, iRI 79 qAI), (79, iB 82 142 (b2 (fun x y => decide (y ≤ x)))), (82, iP 83 (fAld 0)), (83, iRR 86 (gtR 68)), (86, iP 87 (fIld 1)), (87, iP 88 (fAld 0)), (88, iRR 91 (gtR 68)), (91, iP 92 (fIld 1)), (92, iRI 93 qAZ), (93, iB 96 134 (b1 (fun x => decide (x = 0)))), (96, iP 97 (fAld 0)), (97, iRR 100 (gtR 52)), (100, iP 102 (fK (.inl 24))), (102, iP 103 (fIld 1)), (103, iP 104 (f2I (fun x y => x * y))), (104, iP 105 (fIld 2)), (105, iP 106 (f2I (fun x y => x + y))), (106, iRI 107 qAI), (107, iP 108 (fK (.inl 4))), (108, iB 111 130 (b2 (fun x y => decide (x ≠ y)))), (111, iP 112 (fAld 0)), (112, iRR 115 (gtR 68)), (115, iP 116 (fAld 0)), (116, iRR 119 (gtR 54)), (119, iP 121 (fK (.inl 24))), (121, iP 122 (fIld 1)), (122, iP 123 (f2I (fun x y => x * y))), (123, iP 124 (fIld 2)), (124, iP 125 (f2I (fun x y => x + y))), (125, iRI 126 qAI), (126, iRI 127 qAZ), (127, iB 130 134 (b1 (fun x => decide (x = 0)))), (130, iP 131 (fK (.inl 1))), (131, iP 135 fGo)] : List (Nat × AS)), SI X l 153 q.1 q.2 := List.forall_mem_cons.mpr ⟨
  s_iconst (show decode (cod 153) 70 = .ok (.iconst 0, 1) by decide +kernel) rfl, List.forall_mem_cons.mpr ⟨
  s_istore_n (k := 2) (show decode (cod 153) 71 = .ok (.istore_n 2, 1) by decide +kernel), List.forall_mem_cons.mpr ⟨
  s_iload_n (k := 2) (show decode (cod 153) 72 = .ok (.iload_n 2, 1) by decide +kernel), List.forall_mem_cons.mpr ⟨
  s_aload_n (k := 0) (show decode (cod 153) 73 = .ok (.aload_n 0, 1) by decide +kernel), List.forall_mem_cons.mpr ⟨
  s_getR (show decode (cod 153) 74 = .ok (.getfield 7, 3) by decide +kernel) wd_607 (Or.inl rfl) rfl, List.forall_mem_cons.mpr ⟨
  s_iload_n (k := 1) (show decode (cod 153) 77 = .ok (.iload_n 1, 1) by decide +kernel), List.forall_mem_cons.mpr ⟨
  s_iaload (show decode (cod 153) 78 = .ok (.iaload, 1) by decide +kernel), List.forall_mem_cons.mpr ⟨
  s_icmpge (show decode (cod 153) 79 = .ok (.if_icmp .ge 63, 3) by decide +kernel) (by decide), List.forall_mem_cons.mpr ⟨
  s_aload_n (k := 0) (show decode (cod 153) 82 = .ok (.aload_n 0, 1) by decide +kernel), List.forall_mem_cons.mpr ⟨
  s_getR (show decode (cod 153) 83 = .ok (.getfield 51, 3) by decide +kernel) wd_621 (Or.inl rfl) rfl, List.forall_mem_cons.mpr ⟨
  s_iload_n (k := 1) (show decode (cod 153) 86 = .ok (.iload_n 1, 1) by decide +kernel), List.forall_mem_cons.mpr ⟨
  s_aload_n (k := 0) (show decode (cod 153) 87 = .ok (.aload_n 0, 1) by decide +kernel), List.forall_mem_cons.mpr ⟨
  s_getR (show decode (cod 153) 88 = .ok (.getfield 51, 3) by decide +kernel) wd_621 (Or.inl rfl) rfl, List.forall_mem_cons.mpr ⟨
  s_iload_n (k := 1) (show decode (cod 153) 91 = .ok (.iload_n 1, 1) by decide +kernel), List.forall_mem_cons.mpr ⟨
  s_baload (show decode (cod 153) 92 = .ok (.baload, 1) by decide +kernel), List.forall_mem_cons.mpr ⟨
  s_ifeq (show decode (cod 153) 93 = .ok (.ifCond .eq 41, 3) by decide +kernel) (by decide), List.forall_mem_cons.mpr ⟨
  s_aload_n (k := 0) (show decode (cod 153) 96 = .ok (.aload_n 0, 1) by decide +kernel), List.forall_mem_cons.mpr ⟨
  s_getR (show decode (cod 153) 97 = .ok (.getfield 13, 3) by decide +kernel) wd_608 (Or.inl rfl) rfl, List.forall_mem_cons.mpr ⟨
  s_bipush (show decode (cod 153) 100 = .ok (.bipush 24, 2) by decide +kernel) rfl, List.forall_mem_cons.mpr ⟨
  s_iload_n (k := 1) (show decode (cod 153) 102 = .ok (.iload_n 1, 1) by decide +kernel), List.forall_mem_cons.mpr ⟨
  s_imul (show decode (cod 153) 103 = .ok (.imul, 1) by decide +kernel), List.forall_mem_cons.mpr ⟨
  s_iload_n (k := 2) (show decode (cod 153) 104 = .ok (.iload_n 2, 1) by decide +kernel), List.forall_mem_cons.mpr ⟨
  s_iadd (show decode (cod 153) 105 = .ok (.iadd, 1) by decide +kernel), List.forall_mem_cons.mpr ⟨
  s_iaload (show decode (cod 153) 106 = .ok (.iaload, 1) by decide +kernel), List.forall_mem_cons.mpr ⟨
  s_iconst (show decode (cod 153) 107 = .ok (.iconst 4, 1) by decide +kernel) rfl, List.forall_mem_cons.mpr ⟨
  s_icmpne (show decode (cod 153) 108 = .ok (.if_icmp .ne 22, 3) by decide +kernel) (by decide), List.forall_mem_cons.mpr ⟨
  s_aload_n (k := 0) (show decode (cod 153) 111 = .ok (.aload_n 0, 1) by decide +kernel), List.forall_mem_cons.mpr ⟨
  s_getR (show decode (cod 153) 112 = .ok (.getfield 51, 3) by decide +kernel) wd_621 (Or.inl rfl) rfl, List.forall_mem_cons.mpr ⟨
  s_aload_n (k := 0) (show decode (cod 153) 115 = .ok (.aload_n 0, 1) by decide +kernel), List.forall_mem_cons.mpr ⟨
  s_getR (show decode (cod 153) 116 = .ok (.getfield 19, 3) by decide +kernel) wd_610 (Or.inl rfl) rfl, List.forall_mem_cons.mpr ⟨
  s_bipush (show decode (cod 153) 119 = .ok (.bipush 24, 2) by decide +kernel) rfl, List.forall_mem_cons.mpr ⟨
  s_iload_n (k := 1) (show decode (cod 153) 121 = .ok (.iload_n 1, 1) by decide +kernel), List.forall_mem_cons.mpr ⟨
  s_imul (show decode (cod 153) 122 = .ok (.imul, 1) by decide +kernel), List.forall_mem_cons.mpr ⟨
  s_iload_n (k := 2) (show decode (cod 153) 123 = .ok (.iload_n 2, 1) by decide +kernel), List.forall_mem_cons.mpr ⟨
  s_iadd (show decode (cod 153) 124 = .ok (.iadd, 1) by decide +kernel), List.forall_mem_cons.mpr ⟨
  s_iaload (show decode (cod 153) 125 = .ok (.iaload, 1) by decide +kernel), List.forall_mem_cons.mpr ⟨
  s_baload (show decode (cod 153) 126 = .ok (.baload, 1) by decide +kernel), List.forall_mem_cons.mpr ⟨
  s_ifeq (show decode (cod 153) 127 = .ok (.ifCond .eq 7, 3) by decide +kernel) (by decide), List.forall_mem_cons.mpr ⟨
  s_iconst (show decode (cod 153) 130 = .ok (.iconst 1, 1) by decide +kernel) rfl, List.forall_mem_cons.mpr ⟨
  s_goto (show decode (cod 153) 131 = .ok (.goto 4, 3) by decide +kernel) (by decide), fun _ h => by cases h⟩⟩⟩⟩⟩⟩⟩⟩⟩⟩⟩⟩⟩⟩⟩⟩⟩⟩⟩⟩⟩⟩⟩⟩⟩⟩⟩⟩⟩⟩⟩⟩⟩⟩⟩⟩⟩⟩⟩⟩
set_option maxRecDepth 100000 in
set_option maxHeartbeats 4000000 in
theorem si153_2 (X : CX) (l : Launch) : ∀ q ∈ ([(134, iP 135 (fK (.inl 0))), (135, iW 136 wAZ), (136, iP 139 (fInc 2 1)), (139, iP 72 fGo), (142, iP 143 (fK (.inl 0))), (143, iP 144 (fIst 2)), (144, iP 145 (fIld 2)), (145, iP 146 (fK (.inl 2))), (146, iB 149 188 (b2 (fun x y => decide (y ≤ x)))), (149, iP 150 (fAld 0)), (150, iRR 153 (gtR 70)), (153, iP 154 (fK (.inl 2))), (154, iP 155 (fIld 1)), (155, iP 156 (f2I (fun x y => x * y))), (156, iP 157 (fIld 2)), (157, iP 158 (f2I (fun x y => x + y))), (158, iP 159 (fAld 0)), (159, iRR 162 (gtR 68)), (162, iP 163 (fIld 1)), (163, iRI 164 qAZ), (164, iB 167 180 (b1 (fun x => decide (x = 0)))), (167, iP 168 (fAld 0)), (168, iP 169 (fIld 1)), (169, iP 170 (fIld 2)), (170, iCK 173 12 154 14 3 1), (173, iB 176 180 (b1 (fun x => decide (x ≠ 0)))), (176, iP 177 (fK (.inl 1))), (177, iP 181 fGo), (180, iP 181 (fK (.inl 0))), (181, iW 182 wAZ), (182, iP 185 (fInc 2 1)), (185, iP 144 fGo), (188, iP 191 (fInc 1 1)), (191, iP 15 fGo), (194, iRet rV)] : List (Nat × AS)), SI X l 153 q.1 q.2 := List.forall_mem_cons.mpr ⟨
  s_iconst (show decode (cod 153) 134 = .ok (.iconst 0, 1) by decide +kernel) rfl, List.forall_mem_cons.mpr ⟨
  s_bastore (show decode (cod 153) 135 = .ok (.bastore, 1) by decide +kernel), List.forall_mem_cons.mpr ⟨
  s_iinc (show decode (cod 153) 136 = .ok (.iinc 2 1, 3) by decide +kernel) rfl, List.forall_mem_cons.mpr ⟨
  s_goto (show decode (cod 153) 139 = .ok (.goto (-67), 3) by decide +kernel) (by decide), List.forall_mem_cons.mpr ⟨
  s_iconst (show decode (cod 153) 142 = .ok (.iconst 0, 1) by decide +kernel) rfl, List.forall_mem_cons.mpr ⟨
  s_istore_n (k := 2) (show decode (cod 153) 143 = .ok (.istore_n 2, 1) by decide +kernel), List.forall_mem_cons.mpr ⟨
  s_iload_n (k := 2) (show decode (cod 153) 144 = .ok (.iload_n 2, 1) by decide +kernel), List.forall_mem_cons.mpr ⟨
  s_iconst (show decode (cod 153) 145 = .ok (.iconst 2, 1) by decide +kernel) rfl, List.forall_mem_cons.mpr ⟨
  s_icmpge (show decode (cod 153) 146 = .ok (.if_icmp .ge 42, 3) by decide +kernel) (by decide), List.forall_mem_cons.mpr ⟨
  s_aload_n (k := 0) (show decode (cod 153) 149 = .ok (.aload_n 0, 1) by decide +kernel), List.forall_mem_cons.mpr ⟨
  s_getR (show decode (cod 153) 150 = .ok (.getfield 58, 3) by decide +kernel) wd_623 (Or.inl rfl) rfl, List.forall_mem_cons.mpr ⟨
  s_iconst (show decode (cod 153) 153 = .ok (.iconst 2, 1) by decide +kernel) rfl, List.forall_mem_cons.mpr ⟨
  s_iload_n (k := 1) (show decode (cod 153) 154 = .ok (.iload_n 1, 1) by decide +kernel), List.forall_mem_cons.mpr ⟨
  s_imul (show decode (cod 153) 155 = .ok (.imul, 1) by decide +kernel), List.forall_mem_cons.mpr ⟨
  s_iload_n (k := 2) (show decode (cod 153) 156 = .ok (.iload_n 2, 1) by decide +kernel), List.forall_mem_cons.mpr ⟨
  s_iadd (show decode (cod 153) 157 = .ok (.iadd, 1) by decide +kernel), List.forall_mem_cons.mpr ⟨
  s_aload_n (k := 0) (show decode (cod 153) 158 = .ok (.aload_n 0, 1) by decide +kernel), List.forall_mem_cons.mpr ⟨
  s_getR (show decode (cod 153) 159 = .ok (.getfield 51, 3) by decide +kernel) wd_621 (Or.inl rfl) rfl, List.forall_mem_cons.mpr ⟨
  s_iload_n (k := 1) (show decode (cod 153) 162 = .ok (.iload_n 1, 1) by decide +kernel), List.forall_mem_cons.mpr ⟨
  s_baload (show decode (cod 153) 163 = .ok (.baload, 1) by decide +kernel), List.forall_mem_cons.mpr ⟨
  s_ifeq (show decode (cod 153) 164 = .ok (.ifCond .eq 16, 3) by decide +kernel) (by decide), List.forall_mem_cons.mpr ⟨
  s_aload_n (k := 0) (show decode (cod 153) 167 = .ok (.aload_n 0, 1) by decide +kernel), List.forall_mem_cons.mpr ⟨
  s_iload_n (k := 1) (show decode (cod 153) 168 = .ok (.iload_n 1, 1) by decide +kernel), List.forall_mem_cons.mpr ⟨
  s_iload_n (k := 2) (show decode (cod 153) 169 = .ok (.iload_n 2, 1) by decide +kernel), List.forall_mem_cons.mpr ⟨
  s_invK rfl (rcv_virt (show decode (cod 153) 170 = .ok (.invokevirtual 203, 3) by decide +kernel) cld_153_154 ⟨11, _, _, rfl, by decide, rfl⟩ wd_703 wd_704 wd_705), List.forall_mem_cons.mpr ⟨
  s_ifne (show decode (cod 153) 173 = .ok (.ifCond .ne 7, 3) by decide +kernel) (by decide), List.forall_mem_cons.mpr ⟨
  s_iconst (show decode (cod 153) 176 = .ok (.iconst 1, 1) by decide +kernel) rfl, List.forall_mem_cons.mpr ⟨
  s_goto (show decode (cod 153) 177 = .ok (.goto 4, 3) by decide +kernel) (by decide), List.forall_mem_cons.mpr ⟨
  s_iconst (show decode (cod 153) 180 = .ok (.iconst 0, 1) by decide +kernel) rfl, List.forall_mem_cons.mpr ⟨
  s_bastore (show decode (cod 153) 181 = .ok (.bastore, 1) by decide +kernel), List.forall_mem_cons.mpr ⟨
  s_iinc (show decode (cod 153) 182 = .ok (.iinc 2 1, 3) by decide +kernel) rfl, List.forall_mem_cons.mpr ⟨
  s_goto (show decode (cod 153) 185 = .ok (.goto (-41), 3) by decide +kernel) (by decide), List.forall_mem_cons.mpr ⟨
  s_iinc (show decode (cod 153) 188 = .ok (.iinc 1 1, 3) by decide +kernel) rfl, List.forall_mem_cons.mpr ⟨
  s_goto (show decode (cod 153) 191 = .ok (.goto (-176), 3) by decide +kernel) (by decide), List.forall_mem_cons.mpr ⟨
  s_ret (show decode (cod 153) 194 = .ok (.return_, 1) by decide +kernel) rV_ok (fun h => by cases h), fun _ h => by cases h⟩⟩⟩⟩⟩⟩⟩⟩⟩⟩⟩⟩⟩⟩⟩⟩⟩⟩⟩⟩⟩⟩⟩⟩⟩⟩⟩⟩⟩⟩⟩⟩⟩⟩⟩
set_option maxRecDepth 100000 in
theorem si153 (X : CX) (l : Launch) : ∀ q ∈ pt153, SI X l 153 q.1 q.2 := (List.forall_mem_append (l₁ := _) (l₂ := _)).mpr ⟨si153_0 X l, (List.forall_mem_append (l₁ := _) (l₂ := _)).mpr ⟨si153_1 X l, si153_2 X l⟩⟩
set_option maxRecDepth 100000 in
set_option maxHeartbeats 4000000 in
theorem si154_0 (X : CX) (l : Launch) : ∀ q ∈ ([(0, iP 1 (fK (.inl 0))), (1, iP 2 (fIst 3)), (2, iP 3 (fK (.inl 0))), (3, iP 5 (fIst 4)), (5, iP 7 (fK (.inl 16))), (7, iP 9 (fIst 5)), (9, iP 10 (fAld 0)), (10, iP 12 (fIld 5)), (12, iCK 15 12 155 3 2 0), (15, iP 16 (fK (.inl 0))), (16, iP 18 (fIst 6)), (18, iP 20 (fIld 6)), (20, iP 21 (fAld 0)), (21, iRR 24 (gtR 51)), (24, iP 25 (fIld 1)), (25, iRI 26 qAI), (26, iB 29 484 (b2 (fun x y => decide (y ≤ x)))), (29, iP 31 (fK (.inl 24))), (31, iP 32 (fIld 1)), (32, iP 33 (f2I (fun x y => x * y))), (33, iP 35 (fIld 6)), (35, iP 36 (f2I (fun x y => x + y))), (36, iP 38 (fIst 7)), (38, iP 40 (fIld 5)), (40, iP 41 (fK (.inl 1))), (41, iP 42 (f2I (fun x y => x + y))), (42, iP 44 (fIst 8)), (44, iP 45 (fAld 0)), (45, iRR 48 (gtR 52)), (48, iP 50 (fIld 7)), (50, iRI 51 qAI), (51, iSw 416 1 [96, 416, 138, 416, 138, 202, 190, 270]), (96, iP 97 (fAld 0)), (97, iP 99 (fIld 8)), (99, iCK 102 12 155 3 2 0), (102, iP 103 (fAld 0)), (103, iRR 106 (gtR 67)), (106, iP 109 (fK (.inl 252))), (109, iP 111 (fIld 8)), (111, iP 112 (f2I (fun x y => x * y)))] : List (Nat × AS)), SI X l 154 q.1 q.2 := List.forall_mem_cons.mpr ⟨
  s_iconst (show decode (cod 154) 0 = .ok (.iconst 0, 1) by decide +kernel) rfl, List.forall_mem_cons.mpr ⟨
  s_istore_n (k := 3) (show decode (cod 154) 1 = .ok (.istore_n 3, 1) by decide +kernel), List.forall_mem_cons.mpr ⟨
  s_iconst (show decode (cod 154) 2 = .ok (.iconst 0, 1) by decide +kernel) rfl, List.forall_mem_cons.mpr ⟨
  s_istore (k := 4) (show decode (cod 154) 3 = .ok (.istore 4, 2) by decide +kernel), List.forall_mem_cons.mpr ⟨
  s_bipush (show decode (cod 154) 5 = .ok (.bipush 16, 2) by decide +kernel) rfl, List.forall_mem_cons.mpr ⟨
  s_istore (k := 5) (show decode (cod 154) 7 = .ok (.istore 5, 2) by decide +kernel), List.forall_mem_cons.mpr ⟨
  s_aload_n (k := 0) (show decode (cod 154) 9 = .ok (.aload_n 0, 1) by decide +kernel), List.forall_mem_cons.mpr ⟨
  s_iload (k := 5) (show decode (cod 154) 10 = .ok (.iload 5, 2) by decide +kernel), List.forall_mem_cons.mpr ⟨
  s_invK rfl (rcv_virt (show decode (cod 154) 12 = .ok (.invokevirtual 166, 3) by decide +kernel) cld_154_155 ⟨11, _, _, rfl, by decide, rfl⟩ wd_707 wd_708 wd_709), List.forall_mem_cons.mpr ⟨
  s_iconst (show decode (cod 154) 15 = .ok (.iconst 0, 1) by decide +kernel) rfl, List.forall_mem_cons.mpr ⟨
  s_istore (k := 6) (show decode (cod 154) 16 = .ok (.istore 6, 2) by decide +kernel), List.forall_mem_cons.mpr ⟨
  s_iload (k := 6) (show decode (cod 154) 18 = .ok (.iload 6, 2) by decide +kernel), List.forall_mem_cons.mpr ⟨
  s_aload_n (k := 0) (show decode (cod 154) 20 = .ok (.aload_n 0, 1) by decide +kernel), List.forall_mem_cons.mpr ⟨
  s_getR (show decode (cod 154) 21 = .ok (.getfield 7, 3) by decide +kernel) wd_607 (Or.inl rfl) rfl, List.forall_mem_cons.mpr ⟨
  s_iload_n (k := 1) (show decode (cod 154) 24 = .ok (.iload_n 1, 1) by decide +kernel), List.forall_mem_cons.mpr ⟨
  s_iaload (show decode (cod 154) 25 = .ok (.iaload, 1) by decide +kernel), List.forall_mem_cons.mpr ⟨
  s_icmpge (show decode (cod 154) 26 = .ok (.if_icmp .ge 458, 3) by decide +kernel) (by decide), List.forall_mem_cons.mpr ⟨
  s_bipush (show decode (cod 154) 29 = .ok (.bipush 24, 2) by decide +kernel) rfl, List.forall_mem_cons.mpr ⟨
  s_iload_n (k := 1) (show decode (cod 154) 31 = .ok (.iload_n 1, 1) by decide +kernel), List.forall_mem_cons.mpr ⟨
  s_imul (show decode (cod 154) 32 = .ok (.imul, 1) by decide +kernel), List.forall_mem_cons.mpr ⟨
  s_iload (k := 6) (show decode (cod 154) 33 = .ok (.iload 6, 2) by decide +kernel), List.forall_mem_cons.mpr ⟨
  s_iadd (show decode (cod 154) 35 = .ok (.iadd, 1) by decide +kernel), List.forall_mem_cons.mpr ⟨
  s_istore (k := 7) (show decode (cod 154) 36 = .ok (.istore 7, 2) by decide +kernel), List.forall_mem_cons.mpr ⟨
  s_iload (k := 5) (show decode (cod 154) 38 = .ok (.iload 5, 2) by decide +kernel), List.forall_mem_cons.mpr ⟨
  s_iconst (show decode (cod 154) 40 = .ok (.iconst 1, 1) by decide +kernel) rfl, List.forall_mem_cons.mpr ⟨
  s_iadd (show decode (cod 154) 41 = .ok (.iadd, 1) by decide +kernel), List.forall_mem_cons.mpr ⟨
  s_istore (k := 8) (show decode (cod 154) 42 = .ok (.istore 8, 2) by decide +kernel), List.forall_mem_cons.mpr ⟨
  s_aload_n (k := 0) (show decode (cod 154) 44 = .ok (.aload_n 0, 1) by decide +kernel), List.forall_mem_cons.mpr ⟨
  s_getR (show decode (cod 154) 45 = .ok (.getfield 13, 3) by decide +kernel) wd_608 (Or.inl rfl) rfl, List.forall_mem_cons.mpr ⟨
  s_iload (k := 7) (show decode (cod 154) 48 = .ok (.iload 7, 2) by decide +kernel), List.forall_mem_cons.mpr ⟨
  s_iaload (show decode (cod 154) 50 = .ok (.iaload, 1) by decide +kernel), List.forall_mem_cons.mpr ⟨
  s_table (show decode (cod 154) 51 = .ok (.tableswitch 365 1 8 #[45, 365, 87, 365, 87, 151, 139, 219], 45) by decide +kernel) (by decide) (by decide) rfl (by decide) (fun j t h => match j, h with | 0, h => ⟨_, rfl, by cases h; rfl⟩ | 1, h => ⟨_, rfl, by cases h; rfl⟩ | 2, h => ⟨_, rfl, by cases h; rfl⟩ | 3, h => ⟨_, rfl, by cases h; rfl⟩ | 4, h => ⟨_, rfl, by cases h; rfl⟩ | 5, h => ⟨_, rfl, by cases h; rfl⟩ | 6, h => ⟨_, rfl, by cases h; rfl⟩ | 7, h => ⟨_, rfl, by cases h; rfl⟩ | j + 8, h => by simp at h), List.forall_mem_cons.mpr ⟨
  s_aload_n (k := 0) (show decode (cod 154) 96 = .ok (.aload_n 0, 1) by decide +kernel), List.forall_mem_cons.mpr ⟨
  s_iload (k := 8) (show decode (cod 154) 97 = .ok (.iload 8, 2) by decide +kernel), List.forall_mem_cons.mpr ⟨
  s_invK rfl (rcv_virt (show decode (cod 154) 99 = .ok (.invokevirtual 166, 3) by decide +kernel) cld_154_155 ⟨11, _, _, rfl, by decide, rfl⟩ wd_707 wd_708 wd_709), List.forall_mem_cons.mpr ⟨
  s_aload_n (k := 0) (show decode (cod 154) 102 = .ok (.aload_n 0, 1) by decide +kernel), List.forall_mem_cons.mpr ⟨
  s_getR (show decode (cod 154) 103 = .ok (.getfield 47, 3) by decide +kernel) wd_619 (Or.inl rfl) rfl, List.forall_mem_cons.mpr ⟨
  s_sipush (show decode (cod 154) 106 = .ok (.sipush 252, 3) by decide +kernel) rfl, List.forall_mem_cons.mpr ⟨
  s_iload (k := 8) (show decode (cod 154) 109 = .ok (.iload 8, 2) by decide +kernel), List.forall_mem_cons.mpr ⟨
  s_imul (show decode (cod 154) 111 = .ok (.imul, 1) by decide +kernel), fun _ h => by cases h⟩⟩⟩⟩⟩⟩⟩⟩⟩⟩⟩⟩⟩⟩⟩⟩⟩⟩⟩⟩⟩⟩⟩⟩⟩⟩⟩⟩⟩⟩⟩⟩⟩⟩⟩⟩⟩⟩⟩⟩
set_option maxRecDepth 100000 in
set_option maxHeartbeats 4000000 in
theorem si154_1 (X : CX) (l : Launch) : ∀ q ∈ ([(112, iP 115 (fK (.inr (.inl 8640)))), (115, iP 116 (fAld 0)), (116, iRR 119 (gtR 53)), (119, iP 121 (fIld 7)), (121, iRI 122 qAI), (122, iP 123 fI2l), (123, iP 124 (f2J (fun x y => x * y))), (124, iW 125 wAJ), (125, iP 126 (fAld 0)), (126, iP 128 (fIld 5)), (128, iP 130 (fIld 8)), (130, iCK 133 12 156 4 3 1), (133, iB 136 478 (b1 (fun x => decide (x ≠ 0)))), (136, iP 137 (fK (.inl 0))), (137, iRet rZ), (138, iP 139 (fAld 0)), (139, iRR 142 (gtR 74)), (142, iP 143 (fIld 3)), (143, iP 145 (fIld 7)), (145, iW 146 wAI), (146, iP 147 (fAld 0)), (147, iRR 150 (gtR 75)), (150, iP 151 (fIld 3)), (151, iP 153 (fIld 5)), (153, iW 154 wAI), (154, iP 157 (fInc 3 1)), (157, iP 159 (fIld 4)), (159, iP 160 (fAld 0)), (160, iRR 163 (gtR 52)), (163, iP 165 (fIld 7)), (165, iRI 166 qAI), (166, iP 167 (fK (.inl 3))), (167, iB 170 174 (b2 (fun x y => decide (x ≠ y)))), (170, iP 171 (fK (.inl 1))), (171, iP 175 fGo), (174, iP 175 (fK (.inl 0))), (175, iP 176 (f2I (fun x y => x + y))), (176, iP 178 (fIst 4)), (178, iP 181 (fInc 5 1)), (181, iP 182 (fAld 0))] : List (Nat × AS)), SI X l 154 q.1 q.2 := List.forall_mem_cons.mpr ⟨
  s_ldc2 (show decode (cod 154) 112 = .ok (.ldc2_w 191, 3) by decide +kernel) wd_710, List.forall_mem_cons.mpr ⟨
  s_aload_n (k := 0) (show decode (cod 154) 115 = .ok (.aload_n 0, 1) by decide +kernel), List.forall_mem_cons.mpr ⟨
  s_getR (show decode (cod 154) 116 = .ok (.getfield 16, 3) by decide +kernel) wd_609 (Or.inl rfl) rfl, List.forall_mem_cons.mpr ⟨
  s_iload (k := 7) (show decode (cod 154) 119 = .ok (.iload 7, 2) by decide +kernel), List.forall_mem_cons.mpr ⟨
  s_iaload (show decode (cod 154) 121 = .ok (.iaload, 1) by decide +kernel), List.forall_mem_cons.mpr ⟨
  s_i2l (show decode (cod 154) 122 = .ok (.i2l, 1) by decide +kernel), List.forall_mem_cons.mpr ⟨
  s_lmul (show decode (cod 154) 123 = .ok (.lmul, 1) by decide +kernel), List.forall_mem_cons.mpr ⟨
  s_lastore (show decode (cod 154) 124 = .ok (.lastore, 1) by decide +kernel), List.forall_mem_cons.mpr ⟨
  s_aload_n (k := 0) (show decode (cod 154) 125 = .ok (.aload_n 0, 1) by decide +kernel), List.forall_mem_cons.mpr ⟨
  s_iload (k := 5) (show decode (cod 154) 126 = .ok (.iload 5, 2) by decide +kernel), List.forall_mem_cons.mpr ⟨
  s_iload (k := 8) (show decode (cod 154) 128 = .ok (.iload 8, 2) by decide +kernel), List.forall_mem_cons.mpr ⟨
  s_invK rfl (rcv_virt (show decode (cod 154) 130 = .ok (.invokevirtual 193, 3) by decide +kernel) cld_154_156 ⟨11, _, _, rfl, by decide, rfl⟩ wd_712 wd_713 wd_714), List.forall_mem_cons.mpr ⟨
  s_ifne (show decode (cod 154) 133 = .ok (.ifCond .ne 345, 3) by decide +kernel) (by decide), List.forall_mem_cons.mpr ⟨
  s_iconst (show decode (cod 154) 136 = .ok (.iconst 0, 1) by decide +kernel) rfl, List.forall_mem_cons.mpr ⟨
  s_ret (show decode (cod 154) 137 = .ok (.ireturn, 1) by decide +kernel) rZ_ok (fun _ => rZ_b), List.forall_mem_cons.mpr ⟨
  s_aload_n (k := 0) (show decode (cod 154) 138 = .ok (.aload_n 0, 1) by decide +kernel), List.forall_mem_cons.mpr ⟨
  s_getR (show decode (cod 154) 139 = .ok (.getfield 70, 3) by decide +kernel) wd_627 (Or.inl rfl) rfl, List.forall_mem_cons.mpr ⟨
  s_iload_n (k := 3) (show decode (cod 154) 142 = .ok (.iload_n 3, 1) by decide +kernel), List.forall_mem_cons.mpr ⟨
  s_iload (k := 7) (show decode (cod 154) 143 = .ok (.iload 7, 2) by decide +kernel), List.forall_mem_cons.mpr ⟨
  s_iastore (show decode (cod 154) 145 = .ok (.iastore, 1) by decide +kernel), List.forall_mem_cons.mpr ⟨
  s_aload_n (k := 0) (show decode (cod 154) 146 = .ok (.aload_n 0, 1) by decide +kernel), List.forall_mem_cons.mpr ⟨
  s_getR (show decode (cod 154) 147 = .ok (.getfield 73, 3) by decide +kernel) wd_628 (Or.inl rfl) rfl, List.forall_mem_cons.mpr ⟨
  s_iload_n (k := 3) (show decode (cod 154) 150 = .ok (.iload_n 3, 1) by decide +kernel), List.forall_mem_cons.mpr ⟨
  s_iload (k := 5) (show decode (cod 154) 151 = .ok (.iload 5, 2) by decide +kernel), List.forall_mem_cons.mpr ⟨
  s_iastore (show decode (cod 154) 153 = .ok (.iastore, 1) by decide +kernel), List.forall_mem_cons.mpr ⟨
  s_iinc (show decode (cod 154) 154 = .ok (.iinc 3 1, 3) by decide +kernel) rfl, List.forall_mem_cons.mpr ⟨
  s_iload (k := 4) (show decode (cod 154) 157 = .ok (.iload 4, 2) by decide +kernel), List.forall_mem_cons.mpr ⟨
  s_aload_n (k := 0) (show decode (cod 154) 159 = .ok (.aload_n 0, 1) by decide +kernel), List.forall_mem_cons.mpr ⟨
  s_getR (show decode (cod 154) 160 = .ok (.getfield 13, 3) by decide +kernel) wd_608 (Or.inl rfl) rfl, List.forall_mem_cons.mpr ⟨
  s_iload (k := 7) (show decode (cod 154) 163 = .ok (.iload 7, 2) by decide +kernel), List.forall_mem_cons.mpr ⟨
  s_iaload (show decode (cod 154) 165 = .ok (.iaload, 1) by decide +kernel), List.forall_mem_cons.mpr ⟨
  s_iconst (show decode (cod 154) 166 = .ok (.iconst 3, 1) by decide +kernel) rfl, List.forall_mem_cons.mpr ⟨
  s_icmpne (show decode (cod 154) 167 = .ok (.if_icmp .ne 7, 3) by decide +kernel) (by decide), List.forall_mem_cons.mpr ⟨
  s_iconst (show decode (cod 154) 170 = .ok (.iconst 1, 1) by decide +kernel) rfl, List.forall_mem_cons.mpr ⟨
  s_goto (show decode (cod 154) 171 = .ok (.goto 4, 3) by decide +kernel) (by decide), List.forall_mem_cons.mpr ⟨
  s_iconst (show decode (cod 154) 174 = .ok (.iconst 0, 1) by decide +kernel) rfl, List.forall_mem_cons.mpr ⟨
  s_iadd (show decode (cod 154) 175 = .ok (.iadd, 1) by decide +kernel), List.forall_mem_cons.mpr ⟨
  s_istore (k := 4) (show decode (cod 154) 176 = .ok (.istore 4, 2) by decide +kernel), List.forall_mem_cons.mpr ⟨
  s_iinc (show decode (cod 154) 178 = .ok (.iinc 5 1, 3) by decide +kernel) rfl, List.forall_mem_cons.mpr ⟨
  s_aload_n (k := 0) (show decode (cod 154) 181 = .ok (.aload_n 0, 1) by decide +kernel), fun _ h => by cases h⟩⟩⟩⟩⟩⟩⟩⟩⟩⟩⟩⟩⟩⟩⟩⟩⟩⟩⟩⟩⟩⟩⟩⟩⟩⟩⟩⟩⟩⟩⟩⟩⟩⟩⟩⟩⟩⟩⟩⟩
set_option maxRecDepth 100000 in
set_option maxHeartbeats 4000000 in
theorem si154_2 (X : CX) (l : Launch) : ∀ q ∈ ([(182, iP 184 (fIld 5)), (184, iCK 187 12 155 3 2 0), (187, iP 478 fGo), (190, iP 193 (fInc 5 1)), (193, iP 194 (fAld 0)), (194, iP 196 (fIld 5)), (196, iCK 199 12 155 3 2 0), (199, iP 478 fGo), (202, iP 205 (fInc 3 (-1))), (205, iP 208 (fInc 4 (-1))), (208, iP 209 (fAld 0)), (209, iRR 212 (gtR 67)), (212, iP 215 (fK (.inl 252))), (215, iP 217 (fIld 5)), (217, iP 218 (f2I (fun x y => x * y))), (218, iP 219 fDup2), (219, iRJ 220 qAJ), (220, iP 223 (fK (.inr (.inl 8640)))), (223, iP 224 (f2J (fun x y => x + y))), (224, iW 225 wAJ), (225, iP 226 (fAld 0)), (226, iP 228 (fIld 5)), (228, iP 229 (fAld 0)), (229, iRR 232 (gtR 74)), (232, iP 233 (fIld 3)), (233, iRI 234 qAI), (234, iP 236 (fIld 4)), (236, iCK 239 12 158 18 4 1), (239, iB 242 257 (b1 (fun x => decide (x = 0)))), (242, iP 243 (fAld 0)), (243, iP 244 (fAld 0)), (244, iRR 247 (gtR 75)), (247, iP 248 (fIld 3)), (248, iRI 249 qAI), (249, iP 251 (fIld 5)), (251, iCK 254 12 156 4 3 1), (254, iB 257 259 (b1 (fun x => decide (x ≠ 0)))), (257, iP 258 (fK (.inl 0))), (258, iRet rZ), (259, iP 260 (fAld 0))] : List (Nat × AS)), SI X l 154 q.1 q.2 := List.forall_mem_cons.mpr ⟨
  s_iload (k := 5) (show decode (cod 154) 182 = .ok (.iload 5, 2) by decide +kernel), List.forall_mem_cons.mpr ⟨
  s_invK rfl (rcv_virt (show decode (cod 154) 184 = .ok (.invokevirtual 166, 3) by decide +kernel) cld_154_155 ⟨11, _, _, rfl, by decide, rfl⟩ wd_707 wd_708 wd_709), List.forall_mem_cons.mpr ⟨
  s_goto (show decode (cod 154) 187 = .ok (.goto 291, 3) by decide +kernel) (by decide), List.forall_mem_cons.mpr ⟨
  s_iinc (show decode (cod 154) 190 = .ok (.iinc 5 1, 3) by decide +kernel) rfl, List.forall_mem_cons.mpr ⟨
  s_aload_n (k := 0) (show decode (cod 154) 193 = .ok (.aload_n 0, 1) by decide +kernel), List.forall_mem_cons.mpr ⟨
  s_iload (k := 5) (show decode (cod 154) 194 = .ok (.iload 5, 2) by decide +kernel), List.forall_mem_cons.mpr ⟨
  s_invK rfl (rcv_virt (show decode (cod 154) 196 = .ok (.invokevirtual 166, 3) by decide +kernel) cld_154_155 ⟨11, _, _, rfl, by decide, rfl⟩ wd_707 wd_708 wd_709), List.forall_mem_cons.mpr ⟨
  s_goto (show decode (cod 154) 199 = .ok (.goto 279, 3) by decide +kernel) (by decide), List.forall_mem_cons.mpr ⟨
  s_iinc (show decode (cod 154) 202 = .ok (.iinc 3 (-1), 3) by decide +kernel) rfl, List.forall_mem_cons.mpr ⟨
  s_iinc (show decode (cod 154) 205 = .ok (.iinc 4 (-1), 3) by decide +kernel) rfl, List.forall_mem_cons.mpr ⟨
  s_aload_n (k := 0) (show decode (cod 154) 208 = .ok (.aload_n 0, 1) by decide +kernel), List.forall_mem_cons.mpr ⟨
  s_getR (show decode (cod 154) 209 = .ok (.getfield 47, 3) by decide +kernel) wd_619 (Or.inl rfl) rfl, List.forall_mem_cons.mpr ⟨
  s_sipush (show decode (cod 154) 212 = .ok (.sipush 252, 3) by decide +kernel) rfl, List.forall_mem_cons.mpr ⟨
  s_iload (k := 5) (show decode (cod 154) 215 = .ok (.iload 5, 2) by decide +kernel), List.forall_mem_cons.mpr ⟨
  s_imul (show decode (cod 154) 217 = .ok (.imul, 1) by decide +kernel), List.forall_mem_cons.mpr ⟨
  s_dup2 (show decode (cod 154) 218 = .ok (.dup2, 1) by decide +kernel), List.forall_mem_cons.mpr ⟨
  s_laload (show decode (cod 154) 219 = .ok (.laload, 1) by decide +kernel), List.forall_mem_cons.mpr ⟨
  s_ldc2 (show decode (cod 154) 220 = .ok (.ldc2_w 191, 3) by decide +kernel) wd_710, List.forall_mem_cons.mpr ⟨
  s_ladd (show decode (cod 154) 223 = .ok (.ladd, 1) by decide +kernel), List.forall_mem_cons.mpr ⟨
  s_lastore (show decode (cod 154) 224 = .ok (.lastore, 1) by decide +kernel), List.forall_mem_cons.mpr ⟨
  s_aload_n (k := 0) (show decode (cod 154) 225 = .ok (.aload_n 0, 1) by decide +kernel), List.forall_mem_cons.mpr ⟨
  s_iload (k := 5) (show decode (cod 154) 226 = .ok (.iload 5, 2) by decide +kernel), List.forall_mem_cons.mpr ⟨
  s_aload_n (k := 0) (show decode (cod 154) 228 = .ok (.aload_n 0, 1) by decide +kernel), List.forall_mem_cons.mpr ⟨
  s_getR (show decode (cod 154) 229 = .ok (.getfield 70, 3) by decide +kernel) wd_627 (Or.inl rfl) rfl, List.forall_mem_cons.mpr ⟨
  s_iload_n (k := 3) (show decode (cod 154) 232 = .ok (.iload_n 3, 1) by decide +kernel), List.forall_mem_cons.mpr ⟨
  s_iaload (show decode (cod 154) 233 = .ok (.iaload, 1) by decide +kernel), List.forall_mem_cons.mpr ⟨
  s_iload (k := 4) (show decode (cod 154) 234 = .ok (.iload 4, 2) by decide +kernel), List.forall_mem_cons.mpr ⟨
  s_invK rfl (rcv_virt (show decode (cod 154) 236 = .ok (.invokevirtual 196, 3) by decide +kernel) cld_154_158 ⟨11, _, _, rfl, by decide, rfl⟩ wd_716 wd_717 wd_718), List.forall_mem_cons.mpr ⟨
  s_ifeq (show decode (cod 154) 239 = .ok (.ifCond .eq 18, 3) by decide +kernel) (by decide), List.forall_mem_cons.mpr ⟨
  s_aload_n (k := 0) (show decode (cod 154) 242 = .ok (.aload_n 0, 1) by decide +kernel), List.forall_mem_cons.mpr ⟨
  s_aload_n (k := 0) (show decode (cod 154) 243 = .ok (.aload_n 0, 1) by decide +kernel), List.forall_mem_cons.mpr ⟨
  s_getR (show decode (cod 154) 244 = .ok (.getfield 73, 3) by decide +kernel) wd_628 (Or.inl rfl) rfl, List.forall_mem_cons.mpr ⟨
  s_iload_n (k := 3) (show decode (cod 154) 247 = .ok (.iload_n 3, 1) by decide +kernel), List.forall_mem_cons.mpr ⟨
  s_iaload (show decode (cod 154) 248 = .ok (.iaload, 1) by decide +kernel), List.forall_mem_cons.mpr ⟨
  s_iload (k := 5) (show decode (cod 154) 249 = .ok (.iload 5, 2) by decide +kernel), List.forall_mem_cons.mpr ⟨
  s_invK rfl (rcv_virt (show decode (cod 154) 251 = .ok (.invokevirtual 193, 3) by decide +kernel) cld_154_156 ⟨11, _, _, rfl, by decide, rfl⟩ wd_712 wd_713 wd_714), List.forall_mem_cons.mpr ⟨
  s_ifne (show decode (cod 154) 254 = .ok (.ifCond .ne 5, 3) by decide +kernel) (by decide), List.forall_mem_cons.mpr ⟨
  s_iconst (show decode (cod 154) 257 = .ok (.iconst 0, 1) by decide +kernel) rfl, List.forall_mem_cons.mpr ⟨
  s_ret (show decode (cod 154) 258 = .ok (.ireturn, 1) by decide +kernel) rZ_ok (fun _ => rZ_b), List.forall_mem_cons.mpr ⟨
  s_aload_n (k := 0) (show decode (cod 154) 259 = .ok (.aload_n 0, 1) by decide +kernel), fun _ h => by cases h⟩⟩⟩⟩⟩⟩⟩⟩⟩⟩⟩⟩⟩⟩⟩⟩⟩⟩⟩⟩⟩⟩⟩⟩⟩⟩⟩⟩⟩⟩⟩⟩⟩⟩⟩⟩⟩⟩⟩⟩
set_option maxRecDepth 100000 in
set_option maxHeartbeats 4000000 in
theorem si154_3 (X : CX) (l : Launch) : ∀ q ∈ ([(260, iRR 263 (gtR 75)), (263, iP 264 (fIld 3)), (264, iRI 265 qAI), (265, iP 267 (fIst 5)), (267, iP 478 fGo), (270, iP 273 (fInc 3 (-1))), (273, iP 274 (fK (.inl 0))), (274, iP 276 (fIst 9)), (276, iP 278 (fIld 9)), (278, iP 281 (fK (.inl 252))), (281, iB 284 371 (b2 (fun x y => decide (y ≤ x)))), (284, iP 285 (fAld 0)), (285, iRR 288 (gtR 67)), (288, iP 291 (fK (.inl 252))), (291, iP 293 (fIld 5)), (293, iP 294 (fK (.inl 1))), (294, iP 295 (f2I (fun x y => x - y))), (295, iP 296 (f2I (fun x y => x * y))), (296, iP 298 (fIld 9)), (298, iP 299 (f2I (fun x y => x + y))), (299, iRJ 300 qAJ), (300, iP 302 (fLst 10)), (302, iP 303 (fAld 0)), (303, iRR 306 (gtR 67)), (306, iP 309 (fK (.inl 252))), (309, iP 311 (fIld 5)), (311, iP 312 (f2I (fun x y => x * y))), (312, iP 314 (fIld 9)), (314, iP 315 (f2I (fun x y => x + y))), (315, iRJ 316 qAJ), (316, iP 318 (fLst 12)), (318, iP 319 (fAld 0)), (319, iRR 322 (gtR 67)), (322, iP 325 (fK (.inl 252))), (325, iP 327 (fIld 5)), (327, iP 328 (f2I (fun x y => x * y))), (328, iP 330 (fIld 9)), (330, iP 331 (f2I (fun x y => x + y))), (331, iP 333 (fJld 10)), (333, iP 335 (fJld 12))] : List (Nat × AS)), SI X l 154 q.1 q.2 := List.forall_mem_cons.mpr ⟨
  s_getR (show decode (cod 154) 260 = .ok (.getfield 73, 3) by decide +kernel) wd_628 (Or.inl rfl) rfl, List.forall_mem_cons.mpr ⟨
  s_iload_n (k := 3) (show decode (cod 154) 263 = .ok (.iload_n 3, 1) by decide +kernel), List.forall_mem_cons.mpr ⟨
  s_iaload (show decode (cod 154) 264 = .ok (.iaload, 1) by decide +kernel), List.forall_mem_cons.mpr ⟨
  s_istore (k := 5) (show decode (cod 154) 265 = .ok (.istore 5, 2) by decide +kernel), List.forall_mem_cons.mpr ⟨
  s_goto (show decode (cod 154) 267 = .ok (.goto 211, 3) by decide +kernel) (by decide), List.forall_mem_cons.mpr ⟨
  s_iinc (show decode (cod 154) 270 = .ok (.iinc 3 (-1), 3) by decide +kernel) rfl, List.forall_mem_cons.mpr ⟨
  s_iconst (show decode (cod 154) 273 = .ok (.iconst 0, 1) by decide +kernel) rfl, List.forall_mem_cons.mpr ⟨
  s_istore (k := 9) (show decode (cod 154) 274 = .ok (.istore 9, 2) by decide +kernel), List.forall_mem_cons.mpr ⟨
  s_iload (k := 9) (show decode (cod 154) 276 = .ok (.iload 9, 2) by decide +kernel), List.forall_mem_cons.mpr ⟨
  s_sipush (show decode (cod 154) 278 = .ok (.sipush 252, 3) by decide +kernel) rfl, List.forall_mem_cons.mpr ⟨
  s_icmpge (show decode (cod 154) 281 = .ok (.if_icmp .ge 90, 3) by decide +kernel) (by decide), List.forall_mem_cons.mpr ⟨
  s_aload_n (k := 0) (show decode (cod 154) 284 = .ok (.aload_n 0, 1) by decide +kernel), List.forall_mem_cons.mpr ⟨
  s_getR (show decode (cod 154) 285 = .ok (.getfield 47, 3) by decide +kernel) wd_619 (Or.inl rfl) rfl, List.forall_mem_cons.mpr ⟨
  s_sipush (show decode (cod 154) 288 = .ok (.sipush 252, 3) by decide +kernel) rfl, List.forall_mem_cons.mpr ⟨
  s_iload (k := 5) (show decode (cod 154) 291 = .ok (.iload 5, 2) by decide +kernel), List.forall_mem_cons.mpr ⟨
  s_iconst (show decode (cod 154) 293 = .ok (.iconst 1, 1) by decide +kernel) rfl, List.forall_mem_cons.mpr ⟨
  s_isub (show decode (cod 154) 294 = .ok (.isub, 1) by decide +kernel), List.forall_mem_cons.mpr ⟨
  s_imul (show decode (cod 154) 295 = .ok (.imul, 1) by decide +kernel), List.forall_mem_cons.mpr ⟨
  s_iload (k := 9) (show decode (cod 154) 296 = .ok (.iload 9, 2) by decide +kernel), List.forall_mem_cons.mpr ⟨
  s_iadd (show decode (cod 154) 298 = .ok (.iadd, 1) by decide +kernel), List.forall_mem_cons.mpr ⟨
  s_laload (show decode (cod 154) 299 = .ok (.laload, 1) by decide +kernel), List.forall_mem_cons.mpr ⟨
  s_lstore (k := 10) (show decode (cod 154) 300 = .ok (.lstore 10, 2) by decide +kernel), List.forall_mem_cons.mpr ⟨
  s_aload_n (k := 0) (show decode (cod 154) 302 = .ok (.aload_n 0, 1) by decide +kernel), List.forall_mem_cons.mpr ⟨
  s_getR (show decode (cod 154) 303 = .ok (.getfield 47, 3) by decide +kernel) wd_619 (Or.inl rfl) rfl, List.forall_mem_cons.mpr ⟨
  s_sipush (show decode (cod 154) 306 = .ok (.sipush 252, 3) by decide +kernel) rfl, List.forall_mem_cons.mpr ⟨
  s_iload (k := 5) (show decode (cod 154) 309 = .ok (.iload 5, 2) by decide +kernel), List.forall_mem_cons.mpr ⟨
  s_imul (show decode (cod 154) 311 = .ok (.imul, 1) by decide +kernel), List.forall_mem_cons.mpr ⟨
  s_iload (k := 9) (show decode (cod 154) 312 = .ok (.iload 9, 2) by decide +kernel), List.forall_mem_cons.mpr ⟨
  s_iadd (show decode (cod 154) 314 = .ok (.iadd, 1) by decide +kernel), List.forall_mem_cons.mpr ⟨
  s_laload (show decode (cod 154) 315 = .ok (.laload, 1) by decide +kernel), List.forall_mem_cons.mpr ⟨
  s_lstore (k := 12) (show decode (cod 154) 316 = .ok (.lstore 12, 2) by decide +kernel), List.forall_mem_cons.mpr ⟨
  s_aload_n (k := 0) (show decode (cod 154) 318 = .ok (.aload_n 0, 1) by decide +kernel), List.forall_mem_cons.mpr ⟨
  s_getR (show decode (cod 154) 319 = .ok (.getfield 47, 3) by decide +kernel) wd_619 (Or.inl rfl) rfl, List.forall_mem_cons.mpr ⟨
  s_sipush (show decode (cod 154) 322 = .ok (.sipush 252, 3) by decide +kernel) rfl, List.forall_mem_cons.mpr ⟨
  s_iload (k := 5) (show decode (cod 154) 325 = .ok (.iload 5, 2) by decide +kernel), List.forall_mem_cons.mpr ⟨
  s_imul (show decode (cod 154) 327 = .ok (.imul, 1) by decide +kernel), List.forall_mem_cons.mpr ⟨
  s_iload (k := 9) (show decode (cod 154) 328 = .ok (.iload 9, 2) by decide +kernel), List.forall_mem_cons.mpr ⟨
  s_iadd (show decode (cod 154) 330 = .ok (.iadd, 1) by decide +kernel), List.forall_mem_cons.mpr ⟨
  s_lload (k := 10) (show decode (cod 154) 331 = .ok (.lload 10, 2) by decide +kernel), List.forall_mem_cons.mpr ⟨
  s_lload (k := 12) (show decode (cod 154) 333 = .ok (.lload 12, 2) by decide +kernel), fun _ h => by cases h⟩⟩⟩⟩⟩⟩⟩⟩⟩⟩⟩⟩⟩⟩⟩⟩⟩⟩⟩⟩⟩⟩⟩⟩⟩⟩⟩⟩⟩⟩⟩⟩⟩⟩⟩⟩⟩⟩⟩⟩
set_option maxRecDepth 100000 in
set_option maxHeartbeats 4000000 in
theorem si154_4 (X : CX) (l : Launch) : ∀ q ∈ ([(335, iP 336 fLcmp), (336, iB 339 343 (b1 (fun x => decide (x ≤ 0)))), (339, iP 340 (fK (.inl 1))), (340, iP 344 fGo), (343, iP 344 (fK (.inl 0))), (344, iP 345 (fIld 2)), (345, iP 346 (fK (.inl 1))), (346, iB 349 353 (b2 (fun x y => decide (x ≠ y)))), (349, iP 350 (fK (.inl 1))), (350, iP 354 fGo), (353, iP 354 (fK (.inl 0))), (354, iB 357 362 (b2 (fun x y => decide (x ≠ y)))), (357, iP 359 (fJld 10)), (359, iP 364 fGo), (362, iP 364 (fJld 12)), (364, iW 365 wAJ), (365, iP 368 (fInc 9 1)), (368, iP 276 fGo), (371, iP 372 (fAld 0)), (372, iRR 375 (gtR 67)), (375, iP 378 (fK (.inl 252))), (378, iP 380 (fIld 5)), (380, iP 381 (f2I (fun x y => x * y))), (381, iP 382 fDup2), (382, iRJ 383 qAJ), (383, iP 386 (fK (.inr (.inl 8640)))), (386, iP 387 (f2J (fun x y => x + y))), (387, iW 388 wAJ), (388, iP 389 (fAld 0)), (389, iP 390 (fAld 0)), (390, iRR 393 (gtR 75)), (393, iP 394 (fIld 3)), (394, iRI 395 qAI), (395, iP 397 (fIld 5)), (397, iCK 400 12 156 4 3 1), (400, iB 403 405 (b1 (fun x => decide (x ≠ 0)))), (403, iP 404 (fK (.inl 0))), (404, iRet rZ), (405, iP 406 (fAld 0)), (406, iRR 409 (gtR 75))] : List (Nat × AS)), SI X l 154 q.1 q.2 := List.forall_mem_cons.mpr ⟨
  s_lcmp (show decode (cod 154) 335 = .ok (.lcmp, 1) by decide +kernel), List.forall_mem_cons.mpr ⟨
  s_ifle (show decode (cod 154) 336 = .ok (.ifCond .le 7, 3) by decide +kernel) (by decide), List.forall_mem_cons.mpr ⟨
  s_iconst (show decode (cod 154) 339 = .ok (.iconst 1, 1) by decide +kernel) rfl, List.forall_mem_cons.mpr ⟨
  s_goto (show decode (cod 154) 340 = .ok (.goto 4, 3) by decide +kernel) (by decide), List.forall_mem_cons.mpr ⟨
  s_iconst (show decode (cod 154) 343 = .ok (.iconst 0, 1) by decide +kernel) rfl, List.forall_mem_cons.mpr ⟨
  s_iload_n (k := 2) (show decode (cod 154) 344 = .ok (.iload_n 2, 1) by decide +kernel), List.forall_mem_cons.mpr ⟨
  s_iconst (show decode (cod 154) 345 = .ok (.iconst 1, 1) by decide +kernel) rfl, List.forall_mem_cons.mpr ⟨
  s_icmpne (show decode (cod 154) 346 = .ok (.if_icmp .ne 7, 3) by decide +kernel) (by decide), List.forall_mem_cons.mpr ⟨
  s_iconst (show decode (cod 154) 349 = .ok (.iconst 1, 1) by decide +kernel) rfl, List.forall_mem_cons.mpr ⟨
  s_goto (show decode (cod 154) 350 = .ok (.goto 4, 3) by decide +kernel) (by decide), List.forall_mem_cons.mpr ⟨
  s_iconst (show decode (cod 154) 353 = .ok (.iconst 0, 1) by decide +kernel) rfl, List.forall_mem_cons.mpr ⟨
  s_icmpne (show decode (cod 154) 354 = .ok (.if_icmp .ne 8, 3) by decide +kernel) (by decide), List.forall_mem_cons.mpr ⟨
  s_lload (k := 10) (show decode (cod 154) 357 = .ok (.lload 10, 2) by decide +kernel), List.forall_mem_cons.mpr ⟨
  s_goto (show decode (cod 154) 359 = .ok (.goto 5, 3) by decide +kernel) (by decide), List.forall_mem_cons.mpr ⟨
  s_lload (k := 12) (show decode (cod 154) 362 = .ok (.lload 12, 2) by decide +kernel), List.forall_mem_cons.mpr ⟨
  s_lastore (show decode (cod 154) 364 = .ok (.lastore, 1) by decide +kernel), List.forall_mem_cons.mpr ⟨
  s_iinc (show decode (cod 154) 365 = .ok (.iinc 9 1, 3) by decide +kernel) rfl, List.forall_mem_cons.mpr ⟨
  s_goto (show decode (cod 154) 368 = .ok (.goto (-92), 3) by decide +kernel) (by decide), List.forall_mem_cons.mpr ⟨
  s_aload_n (k := 0) (show decode (cod 154) 371 = .ok (.aload_n 0, 1) by decide +kernel), List.forall_mem_cons.mpr ⟨
  s_getR (show decode (cod 154) 372 = .ok (.getfield 47, 3) by decide +kernel) wd_619 (Or.inl rfl) rfl, List.forall_mem_cons.mpr ⟨
  s_sipush (show decode (cod 154) 375 = .ok (.sipush 252, 3) by decide +kernel) rfl, List.forall_mem_cons.mpr ⟨
  s_iload (k := 5) (show decode (cod 154) 378 = .ok (.iload 5, 2) by decide +kernel), List.forall_mem_cons.mpr ⟨
  s_imul (show decode (cod 154) 380 = .ok (.imul, 1) by decide +kernel), List.forall_mem_cons.mpr ⟨
  s_dup2 (show decode (cod 154) 381 = .ok (.dup2, 1) by decide +kernel), List.forall_mem_cons.mpr ⟨
  s_laload (show decode (cod 154) 382 = .ok (.laload, 1) by decide +kernel), List.forall_mem_cons.mpr ⟨
  s_ldc2 (show decode (cod 154) 383 = .ok (.ldc2_w 191, 3) by decide +kernel) wd_710, List.forall_mem_cons.mpr ⟨
  s_ladd (show decode (cod 154) 386 = .ok (.ladd, 1) by decide +kernel), List.forall_mem_cons.mpr ⟨
  s_lastore (show decode (cod 154) 387 = .ok (.lastore, 1) by decide +kernel), List.forall_mem_cons.mpr ⟨
  s_aload_n (k := 0) (show decode (cod 154) 388 = .ok (.aload_n 0, 1) by decide +kernel), List.forall_mem_cons.mpr ⟨
  s_aload_n (k := 0) (show decode (cod 154) 389 = .ok (.aload_n 0, 1) by decide +kernel), List.forall_mem_cons.mpr ⟨
  s_getR (show decode (cod 154) 390 = .ok (.getfield 73, 3) by decide +kernel) wd_628 (Or.inl rfl) rfl, List.forall_mem_cons.mpr ⟨
  s_iload_n (k := 3) (show decode (cod 154) 393 = .ok (.iload_n 3, 1) by decide +kernel), List.forall_mem_cons.mpr ⟨
  s_iaload (show decode (cod 154) 394 = .ok (.iaload, 1) by decide +kernel), List.forall_mem_cons.mpr ⟨
  s_iload (k := 5) (show decode (cod 154) 395 = .ok (.iload 5, 2) by decide +kernel), List.forall_mem_cons.mpr ⟨
  s_invK rfl (rcv_virt (show decode (cod 154) 397 = .ok (.invokevirtual 193, 3) by decide +kernel) cld_154_156 ⟨11, _, _, rfl, by decide, rfl⟩ wd_712 wd_713 wd_714), List.forall_mem_cons.mpr ⟨
  s_ifne (show decode (cod 154) 400 = .ok (.ifCond .ne 5, 3) by decide +kernel) (by decide), List.forall_mem_cons.mpr ⟨
  s_iconst (show decode (cod 154) 403 = .ok (.iconst 0, 1) by decide +kernel) rfl, List.forall_mem_cons.mpr ⟨
  s_ret (show decode (cod 154) 404 = .ok (.ireturn, 1) by decide +kernel) rZ_ok (fun _ => rZ_b), List.forall_mem_cons.mpr ⟨
  s_aload_n (k := 0) (show decode (cod 154) 405 = .ok (.aload_n 0, 1) by decide +kernel), List.forall_mem_cons.mpr ⟨
  s_getR (show decode (cod 154) 406 = .ok (.getfield 73, 3) by decide +kernel) wd_628 (Or.inl rfl) rfl, fun _ h => by cases h⟩⟩⟩⟩⟩⟩⟩⟩⟩⟩⟩⟩⟩⟩⟩⟩⟩⟩⟩⟩⟩⟩⟩⟩⟩⟩⟩⟩⟩⟩⟩⟩⟩⟩⟩⟩⟩⟩⟩⟩
set_option maxRecDepth 100000 in
set_option maxHeartbeats 4000000 in
theorem si154_5 (X : CX) (l : Launch) : ∀ q ∈ ([(409, iP 410 (fIld 3)), (410, iRI 411 qAI), (411, iP 413 (fIst 5)), (413, iP 478 fGo), (416, iP 417 (fAld 0)), (417, iRR 420 (gtR 70)), (420, iP 421 (fK (.inl 2))), (421, iP 422 (fAld 0)), (422, iRR 425 (gtR 54)), (425, iP 427 (fIld 7)), (427, iRI 428 qAI), (428, iP 429 (f2I (fun x y => x * y))), (429, iP 430 (fIld 2)), (430, iP 431 (f2I (fun x y => x + y))), (431, iRI 432 qAZ), (432, iB 435 437 (b1 (fun x => decide (x = 0)))), (435, iP 436 (fK (.inl 0))), (436, iRet rZ), (437, iP 438 (fAld 0)), (438, iP 440 (fIld 8)), (440, iP 442 (fIld 7)), (442, iP 443 (fIld 2)), (443, iP 445 (fIld 4)), (445, iCK 448 12 163 17 5 0), (448, iP 449 (fAld 0)), (449, iRR 452 (gtR 67)), (452, iP 455 (fK (.inl 252))), (455, iP 457 (fIld 8)), (457, iP 458 (f2I (fun x y => x * y))), (458, iP 459 fDup2), (459, iRJ 460 qAJ), (460, iP 463 (fK (.inr (.inl 8640)))), (463, iP 464 (f2J (fun x y => x + y))), (464, iW 465 wAJ), (465, iP 466 (fAld 0)), (466, iP 468 (fIld 5)), (468, iP 470 (fIld 8)), (470, iCK 473 12 156 4 3 1), (473, iB 476 478 (b1 (fun x => decide (x ≠ 0)))), (476, iP 477 (fK (.inl 0)))] : List (Nat × AS)), SI X l 154 q.1 q.2 := List.forall_mem_cons.mpr ⟨
  s_iload_n (k := 3) (show decode (cod 154) 409 = .ok (.iload_n 3, 1) by decide +kernel), List.forall_mem_cons.mpr ⟨
  s_iaload (show decode (cod 154) 410 = .ok (.iaload, 1) by decide +kernel), List.forall_mem_cons.mpr ⟨
  s_istore (k := 5) (show decode (cod 154) 411 = .ok (.istore 5, 2) by decide +kernel), List.forall_mem_cons.mpr ⟨
  s_goto (show decode (cod 154) 413 = .ok (.goto 65, 3) by decide +kernel) (by decide), List.forall_mem_cons.mpr ⟨
  s_aload_n (k := 0) (show decode (cod 154) 416 = .ok (.aload_n 0, 1) by decide +kernel), List.forall_mem_cons.mpr ⟨
  s_getR (show decode (cod 154) 417 = .ok (.getfield 58, 3) by decide +kernel) wd_623 (Or.inl rfl) rfl, List.forall_mem_cons.mpr ⟨
  s_iconst (show decode (cod 154) 420 = .ok (.iconst 2, 1) by decide +kernel) rfl, List.forall_mem_cons.mpr ⟨
  s_aload_n (k := 0) (show decode (cod 154) 421 = .ok (.aload_n 0, 1) by decide +kernel), List.forall_mem_cons.mpr ⟨
  s_getR (show decode (cod 154) 422 = .ok (.getfield 19, 3) by decide +kernel) wd_610 (Or.inl rfl) rfl, List.forall_mem_cons.mpr ⟨
  s_iload (k := 7) (show decode (cod 154) 425 = .ok (.iload 7, 2) by decide +kernel), List.forall_mem_cons.mpr ⟨
  s_iaload (show decode (cod 154) 427 = .ok (.iaload, 1) by decide +kernel), List.forall_mem_cons.mpr ⟨
  s_imul (show decode (cod 154) 428 = .ok (.imul, 1) by decide +kernel), List.forall_mem_cons.mpr ⟨
  s_iload_n (k := 2) (show decode (cod 154) 429 = .ok (.iload_n 2, 1) by decide +kernel), List.forall_mem_cons.mpr ⟨
  s_iadd (show decode (cod 154) 430 = .ok (.iadd, 1) by decide +kernel), List.forall_mem_cons.mpr ⟨
  s_baload (show decode (cod 154) 431 = .ok (.baload, 1) by decide +kernel), List.forall_mem_cons.mpr ⟨
  s_ifeq (show decode (cod 154) 432 = .ok (.ifCond .eq 5, 3) by decide +kernel) (by decide), List.forall_mem_cons.mpr ⟨
  s_iconst (show decode (cod 154) 435 = .ok (.iconst 0, 1) by decide +kernel) rfl, List.forall_mem_cons.mpr ⟨
  s_ret (show decode (cod 154) 436 = .ok (.ireturn, 1) by decide +kernel) rZ_ok (fun _ => rZ_b), List.forall_mem_cons.mpr ⟨
  s_aload_n (k := 0) (show decode (cod 154) 437 = .ok (.aload_n 0, 1) by decide +kernel), List.forall_mem_cons.mpr ⟨
  s_iload (k := 8) (show decode (cod 154) 438 = .ok (.iload 8, 2) by decide +kernel), List.forall_mem_cons.mpr ⟨
  s_iload (k := 7) (show decode (cod 154) 440 = .ok (.iload 7, 2) by decide +kernel), List.forall_mem_cons.mpr ⟨
  s_iload_n (k := 2) (show decode (cod 154) 442 = .ok (.iload_n 2, 1) by decide +kernel), List.forall_mem_cons.mpr ⟨
  s_iload (k := 4) (show decode (cod 154) 443 = .ok (.iload 4, 2) by decide +kernel), List.forall_mem_cons.mpr ⟨
  s_invK rfl (rcv_virt (show decode (cod 154) 445 = .ok (.invokevirtual 200, 3) by decide +kernel) cld_154_163 ⟨11, _, _, rfl, by decide, rfl⟩ wd_720 wd_721 wd_722), List.forall_mem_cons.mpr ⟨
  s_aload_n (k := 0) (show decode (cod 154) 448 = .ok (.aload_n 0, 1) by decide +kernel), List.forall_mem_cons.mpr ⟨
  s_getR (show decode (cod 154) 449 = .ok (.getfield 47, 3) by decide +kernel) wd_619 (Or.inl rfl) rfl, List.forall_mem_cons.mpr ⟨
  s_sipush (show decode (cod 154) 452 = .ok (.sipush 252, 3) by decide +kernel) rfl, List.forall_mem_cons.mpr ⟨
  s_iload (k := 8) (show decode (cod 154) 455 = .ok (.iload 8, 2) by decide +kernel), List.forall_mem_cons.mpr ⟨
  s_imul (show decode (cod 154) 457 = .ok (.imul, 1) by decide +kernel), List.forall_mem_cons.mpr ⟨
  s_dup2 (show decode (cod 154) 458 = .ok (.dup2, 1) by decide +kernel), List.forall_mem_cons.mpr ⟨
  s_laload (show decode (cod 154) 459 = .ok (.laload, 1) by decide +kernel), List.forall_mem_cons.mpr ⟨
  s_ldc2 (show decode (cod 154) 460 = .ok (.ldc2_w 191, 3) by decide +kernel) wd_710, List.forall_mem_cons.mpr ⟨
  s_ladd (show decode (cod 154) 463 = .ok (.ladd, 1) by decide +kernel), List.forall_mem_cons.mpr ⟨
  s_lastore (show decode (cod 154) 464 = .ok (.lastore, 1) by decide +kernel), List.forall_mem_cons.mpr ⟨
  s_aload_n (k := 0) (show decode (cod 154) 465 = .ok (.aload_n 0, 1) by decide +kernel), List.forall_mem_cons.mpr ⟨
  s_iload (k := 5) (show decode (cod 154) 466 = .ok (.iload 5, 2) by decide +kernel), List.forall_mem_cons.mpr ⟨
  s_iload (k := 8) (show decode (cod 154) 468 = .ok (.iload 8, 2) by decide +kernel), List.forall_mem_cons.mpr ⟨
  s_invK rfl (rcv_virt (show decode (cod 154) 470 = .ok (.invokevirtual 193, 3) by decide +kernel) cld_154_156 ⟨11, _, _, rfl, by decide, rfl⟩ wd_712 wd_713 wd_714), List.forall_mem_cons.mpr ⟨
  s_ifne (show decode (cod 154) 473 = .ok (.ifCond .ne 5, 3) by decide +kernel) (by decide), List.forall_mem_cons.mpr ⟨
  s_iconst (show decode (cod 154) 476 = .ok (.iconst 0, 1) by decide +kernel) rfl, fun _ h => by cases h⟩⟩⟩⟩⟩⟩⟩⟩⟩⟩⟩⟩⟩⟩⟩⟩⟩⟩⟩⟩⟩⟩⟩⟩⟩⟩⟩⟩⟩⟩⟩⟩⟩⟩⟩⟩⟩⟩⟩⟩
set_option maxRecDepth 100000 in
set_option maxHeartbeats 4000000 in
theorem si154_6 (X : CX) (l : Launch) : ∀ q ∈ ([(477, iRet rZ), (478, iP 481 (fInc 6 1)), (481, iP 18 fGo), (484, iP 485 (fK (.inl 0))), (485, iP 487 (fIst 6)), (487, iP 489 (fIld 6)), (489, iP 492 (fK (.inl 252))), (492, iB 495 529 (b2 (fun x y => decide (y ≤ x)))), (495, iP 496 (fAld 0)), (496, iRR 499 (gtR 67)), (499, iP 502 (fK (.inl 252))), (502, iP 503 (fK (.inl 2))), (503, iP 504 (fIld 1)), (504, iP 505 (f2I (fun x y => x * y))), (505, iP 506 (fIld 2)), (506, iP 507 (f2I (fun x y => x + y))), (507, iP 508 (f2I (fun x y => x * y))), (508, iP 510 (fIld 6)), (510, iP 511 (f2I (fun x y => x + y))), (511, iP 512 (fAld 0)), (512, iRR 515 (gtR 67)), (515, iP 518 (fK (.inl 4032))), (518, iP 520 (fIld 6)), (520, iP 521 (f2I (fun x y => x + y))), (521, iRJ 522 qAJ), (522, iW 523 wAJ), (523, iP 526 (fInc 6 1)), (526, iP 487 fGo), (529, iP 530 (fK (.inl 1))), (530, iRet rZ)] : List (Nat × AS)), SI X l 154 q.1 q.2 := List.forall_mem_cons.mpr ⟨
  s_ret (show decode (cod 154) 477 = .ok (.ireturn, 1) by decide +kernel) rZ_ok (fun _ => rZ_b), List.forall_mem_cons.mpr ⟨
  s_iinc (show decode (cod 154) 478 = .ok (.iinc 6 1, 3) by decide +kernel) rfl, List.forall_mem_cons.mpr ⟨
  s_goto (show decode (cod 154) 481 = .ok (.goto (-463), 3) by decide +kernel) (by decide), List.forall_mem_cons.mpr ⟨
  s_iconst (show decode (cod 154) 484 = .ok (.iconst 0, 1) by decide +kernel) rfl, List.forall_mem_cons.mpr ⟨
  s_istore (k := 6) (show decode (cod 154) 485 = .ok (.istore 6, 2) by decide +kernel), List.forall_mem_cons.mpr ⟨
  s_iload (k := 6) (show decode (cod 154) 487 = .ok (.iload 6, 2) by decide +kernel), List.forall_mem_cons.mpr ⟨
  s_sipush (show decode (cod 154) 489 = .ok (.sipush 252, 3) by decide +kernel) rfl, List.forall_mem_cons.mpr ⟨
  s_icmpge (show decode (cod 154) 492 = .ok (.if_icmp .ge 37, 3) by decide +kernel) (by decide), List.forall_mem_cons.mpr ⟨
  s_aload_n (k := 0) (show decode (cod 154) 495 = .ok (.aload_n 0, 1) by decide +kernel), List.forall_mem_cons.mpr ⟨
  s_getR (show decode (cod 154) 496 = .ok (.getfield 47, 3) by decide +kernel) wd_619 (Or.inl rfl) rfl, List.forall_mem_cons.mpr ⟨
  s_sipush (show decode (cod 154) 499 = .ok (.sipush 252, 3) by decide +kernel) rfl, List.forall_mem_cons.mpr ⟨
  s_iconst (show decode (cod 154) 502 = .ok (.iconst 2, 1) by decide +kernel) rfl, List.forall_mem_cons.mpr ⟨
  s_iload_n (k := 1) (show decode (cod 154) 503 = .ok (.iload_n 1, 1) by decide +kernel), List.forall_mem_cons.mpr ⟨
  s_imul (show decode (cod 154) 504 = .ok (.imul, 1) by decide +kernel), List.forall_mem_cons.mpr ⟨
  s_iload_n (k := 2) (show decode (cod 154) 505 = .ok (.iload_n 2, 1) by decide +kernel), List.forall_mem_cons.mpr ⟨
  s_iadd (show decode (cod 154) 506 = .ok (.iadd, 1) by decide +kernel), List.forall_mem_cons.mpr ⟨
  s_imul (show decode (cod 154) 507 = .ok (.imul, 1) by decide +kernel), List.forall_mem_cons.mpr ⟨
  s_iload (k := 6) (show decode (cod 154) 508 = .ok (.iload 6, 2) by decide +kernel), List.forall_mem_cons.mpr ⟨
  s_iadd (show decode (cod 154) 510 = .ok (.iadd, 1) by decide +kernel), List.forall_mem_cons.mpr ⟨
  s_aload_n (k := 0) (show decode (cod 154) 511 = .ok (.aload_n 0, 1) by decide +kernel), List.forall_mem_cons.mpr ⟨
  s_getR (show decode (cod 154) 512 = .ok (.getfield 47, 3) by decide +kernel) wd_619 (Or.inl rfl) rfl, List.forall_mem_cons.mpr ⟨
  s_sipush (show decode (cod 154) 515 = .ok (.sipush 4032, 3) by decide +kernel) rfl, List.forall_mem_cons.mpr ⟨
  s_iload (k := 6) (show decode (cod 154) 518 = .ok (.iload 6, 2) by decide +kernel), List.forall_mem_cons.mpr ⟨
  s_iadd (show decode (cod 154) 520 = .ok (.iadd, 1) by decide +kernel), List.forall_mem_cons.mpr ⟨
  s_laload (show decode (cod 154) 521 = .ok (.laload, 1) by decide +kernel), List.forall_mem_cons.mpr ⟨
  s_lastore (show decode (cod 154) 522 = .ok (.lastore, 1) by decide +kernel), List.forall_mem_cons.mpr ⟨
  s_iinc (show decode (cod 154) 523 = .ok (.iinc 6 1, 3) by decide +kernel) rfl, List.forall_mem_cons.mpr ⟨
  s_goto (show decode (cod 154) 526 = .ok (.goto (-39), 3) by decide +kernel) (by decide), List.forall_mem_cons.mpr ⟨
  s_iconst (show decode (cod 154) 529 = .ok (.iconst 1, 1) by decide +kernel) rfl, List.forall_mem_cons.mpr ⟨
  s_ret (show decode (cod 154) 530 = .ok (.ireturn, 1) by decide +kernel) rZ_ok (fun _ => rZ_b), fun _ h => by cases h⟩⟩⟩⟩⟩⟩⟩⟩⟩⟩⟩⟩⟩⟩⟩⟩⟩⟩⟩⟩⟩⟩⟩⟩⟩⟩⟩⟩⟩⟩
set_option maxRecDepth 100000 in
theorem si154 (X : CX) (l : Launch) : ∀ q ∈ pt154, SI X l 154 q.1 q.2 := (List.forall_mem_append (l₁ := _) (l₂ := _)).mpr ⟨si154_0 X l, (List.forall_mem_append (l₁ := _) (l₂ := _)).mpr ⟨si154_1 X l, (List.forall_mem_append (l₁ := _) (l₂ := _)).mpr ⟨si154_2 X l, (List.forall_mem_append (l₁ := _) (l₂ := _)).mpr ⟨si154_3 X l, (List.forall_mem_append (l₁ := _) (l₂ := _)).mpr ⟨si154_4 X l, (List.forall_mem_append (l₁ := _) (l₂ := _)).mpr ⟨si154_5 X l, si154_6 X l⟩⟩⟩⟩⟩⟩
