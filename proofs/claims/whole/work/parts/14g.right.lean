set_option maxRecDepth 100000 in
set_option maxHeartbeats 4000000 in
theorem si169_0 (X : CX) (l : Launch) : ∀ q ∈ ([(0, iP 1 (fIld 0)), (1, iP 2 fI2l), (2, iP 3 (fK (.inr (.inl 0)))), (3, iP 6 (fK (.inr (.inl 20)))), (6, iC 9 130 6 3 1), (9, iB 12 28 (b1 (fun x => decide (x = 0)))), (12, iP 13 (fIld 1)), (13, iP 14 fI2l), (14, iP 15 (fK (.inr (.inl 0)))), (15, iP 18 (fK (.inr (.inl 20)))), (18, iC 21 130 6 3 1), (21, iB 24 28 (b1 (fun x => decide (x = 0)))), (24, iP 25 (fK (.inl 1))), (25, iP 29 fGo), (28, iP 29 (fK (.inl 0))), (29, iRet rZ)] : List (Nat × AS)), SI X l 169 q.1 q.2 := List.forall_mem_cons.mpr ⟨
  s_iload_n (k := 0) (show decode (cod 169) 0 = .ok (.iload_n 0, 1) by decide +kernel), List.forall_mem_cons.mpr ⟨
  s_i2l (show decode (cod 169) 1 = .ok (.i2l, 1) by decide +kernel), List.forall_mem_cons.mpr ⟨
  s_lconst (show decode (cod 169) 2 = .ok (.lconst 0, 1) by decide +kernel) rfl, List.forall_mem_cons.mpr ⟨
  s_ldc2 (show decode (cod 169) 3 = .ok (.ldc2_w 228, 3) by decide +kernel) wd_761, List.forall_mem_cons.mpr ⟨
  s_invS (show decode (cod 169) 6 = .ok (.invokestatic 100, 3) by decide +kernel) rfl cld_169_130 wd_641 wd_642, List.forall_mem_cons.mpr ⟨
  s_ifeq (show decode (cod 169) 9 = .ok (.ifCond .eq 19, 3) by decide +kernel) (by decide), List.forall_mem_cons.mpr ⟨
  s_iload_n (k := 1) (show decode (cod 169) 12 = .ok (.iload_n 1, 1) by decide +kernel), List.forall_mem_cons.mpr ⟨
  s_i2l (show decode (cod 169) 13 = .ok (.i2l, 1) by decide +kernel), List.forall_mem_cons.mpr ⟨
  s_lconst (show decode (cod 169) 14 = .ok (.lconst 0, 1) by decide +kernel) rfl, List.forall_mem_cons.mpr ⟨
  s_ldc2 (show decode (cod 169) 15 = .ok (.ldc2_w 228, 3) by decide +kernel) wd_761, List.forall_mem_cons.mpr ⟨
  s_invS (show decode (cod 169) 18 = .ok (.invokestatic 100, 3) by decide +kernel) rfl cld_169_130 wd_641 wd_642, List.forall_mem_cons.mpr ⟨
  s_ifeq (show decode (cod 169) 21 = .ok (.ifCond .eq 7, 3) by decide +kernel) (by decide), List.forall_mem_cons.mpr ⟨
  s_iconst (show decode (cod 169) 24 = .ok (.iconst 1, 1) by decide +kernel) rfl, List.forall_mem_cons.mpr ⟨
  s_goto (show decode (cod 169) 25 = .ok (.goto 4, 3) by decide +kernel) (by decide), List.forall_mem_cons.mpr ⟨
  s_iconst (show decode (cod 169) 28 = .ok (.iconst 0, 1) by decide +kernel) rfl, List.forall_mem_cons.mpr ⟨
  s_ret (show decode (cod 169) 29 = .ok (.ireturn, 1) by decide +kernel) rZ_ok (fun _ => rZ_b), fun _ h => by cases h⟩⟩⟩⟩⟩⟩⟩⟩⟩⟩⟩⟩⟩⟩⟩⟩
set_option maxRecDepth 100000 in
theorem si169 (X : CX) (l : Launch) : ∀ q ∈ pt169, SI X l 169 q.1 q.2 :=  si169_0 X l
set_option maxRecDepth 100000 in
set_option maxHeartbeats 4000000 in
theorem si170_0 (X : CX) (l : Launch) : ∀ q ∈ ([(0, iP 1 (fK (.inr (.inl 0)))), (1, iP 3 (fLst 5)), (3, iP 4 (fK (.inr (.inl 1)))), (4, iP 6 (fLst 7)), (6, iP 7 (fK (.inl 0))), (7, iP 9 (fIst 9)), (9, iP 11 (fIld 9)), (11, iP 13 (fK (.inl 6))), (13, iB 16 91 (b2 (fun x y => decide (y ≤ x)))), (16, iP 18 (fJld 7)), (18, iP 20 (fLst 10)), (20, iP 21 (fK (.inl 0))), (21, iP 23 (fIst 12)), (23, iP 25 (fIld 9)), (25, iP 27 (fIld 12)), (27, iP 28 (f2I (fun x y => x + y))), (28, iP 30 (fK (.inl 6))), (30, iB 33 78 (b2 (fun x y => decide (y ≤ x)))), (33, iP 35 (fJld 5)), (35, iP 36 (fAld 0)), (36, iRR 39 (gtR 67)), (39, iP 42 (fK (.inl 252))), (42, iP 43 (fK (.inl 2))), (43, iP 44 (fIld 1)), (44, iP 45 (f2I (fun x y => x * y))), (45, iP 46 (fIld 2)), (46, iP 47 (f2I (fun x y => x + y))), (47, iP 48 (f2I (fun x y => x * y))), (48, iP 49 (fAld 0)), (49, iP 51 (fIld 9)), (51, iP 53 (fIld 12)), (53, iCK 56 12 166 3 3 1), (56, iP 57 (f2I (fun x y => x + y))), (57, iRJ 58 qAJ), (58, iP 60 (fJld 10)), (60, iP 61 (f2J (fun x y => x * y))), (61, iP 62 (f2J (fun x y => x + y))), (62, iP 64 (fLst 5)), (64, iP 66 (fJld 10)), (66, iP 68 (fIld 4))] : List (Nat × AS)), SI X l 170 q.1 q.2 := List.forall_mem_cons.mpr ⟨
  s_lconst (show decode (cod 170) 0 = .ok (.lconst 0, 1) by decide +kernel) rfl, List.forall_mem_cons.mpr ⟨
  s_lstore (k := 5) (show decode (cod 170) 1 = .ok (.lstore 5, 2) by decide +kernel), List.forall_mem_cons.mpr ⟨
  s_lconst (show decode (cod 170) 3 = .ok (.lconst 1, 1) by decide +kernel) rfl, List.forall_mem_cons.mpr ⟨
  s_lstore (k := 7) (show decode (cod 170) 4 = .ok (.lstore 7, 2) by decide +kernel), List.forall_mem_cons.mpr ⟨
  s_iconst (show decode (cod 170) 6 = .ok (.iconst 0, 1) by decide +kernel) rfl, List.forall_mem_cons.mpr ⟨
  s_istore (k := 9) (show decode (cod 170) 7 = .ok (.istore 9, 2) by decide +kernel), List.forall_mem_cons.mpr ⟨
  s_iload (k := 9) (show decode (cod 170) 9 = .ok (.iload 9, 2) by decide +kernel), List.forall_mem_cons.mpr ⟨
  s_bipush (show decode (cod 170) 11 = .ok (.bipush 6, 2) by decide +kernel) rfl, List.forall_mem_cons.mpr ⟨
  s_icmpge (show decode (cod 170) 13 = .ok (.if_icmp .ge 78, 3) by decide +kernel) (by decide), List.forall_mem_cons.mpr ⟨
  s_lload (k := 7) (show decode (cod 170) 16 = .ok (.lload 7, 2) by decide +kernel), List.forall_mem_cons.mpr ⟨
  s_lstore (k := 10) (show decode (cod 170) 18 = .ok (.lstore 10, 2) by decide +kernel), List.forall_mem_cons.mpr ⟨
  s_iconst (show decode (cod 170) 20 = .ok (.iconst 0, 1) by decide +kernel) rfl, List.forall_mem_cons.mpr ⟨
  s_istore (k := 12) (show decode (cod 170) 21 = .ok (.istore 12, 2) by decide +kernel), List.forall_mem_cons.mpr ⟨
  s_iload (k := 9) (show decode (cod 170) 23 = .ok (.iload 9, 2) by decide +kernel), List.forall_mem_cons.mpr ⟨
  s_iload (k := 12) (show decode (cod 170) 25 = .ok (.iload 12, 2) by decide +kernel), List.forall_mem_cons.mpr ⟨
  s_iadd (show decode (cod 170) 27 = .ok (.iadd, 1) by decide +kernel), List.forall_mem_cons.mpr ⟨
  s_bipush (show decode (cod 170) 28 = .ok (.bipush 6, 2) by decide +kernel) rfl, List.forall_mem_cons.mpr ⟨
  s_icmpge (show decode (cod 170) 30 = .ok (.if_icmp .ge 48, 3) by decide +kernel) (by decide), List.forall_mem_cons.mpr ⟨
  s_lload (k := 5) (show decode (cod 170) 33 = .ok (.lload 5, 2) by decide +kernel), List.forall_mem_cons.mpr ⟨
  s_aload_n (k := 0) (show decode (cod 170) 35 = .ok (.aload_n 0, 1) by decide +kernel), List.forall_mem_cons.mpr ⟨
  s_getR (show decode (cod 170) 36 = .ok (.getfield 47, 3) by decide +kernel) wd_619 (Or.inl rfl) rfl, List.forall_mem_cons.mpr ⟨
  s_sipush (show decode (cod 170) 39 = .ok (.sipush 252, 3) by decide +kernel) rfl, List.forall_mem_cons.mpr ⟨
  s_iconst (show decode (cod 170) 42 = .ok (.iconst 2, 1) by decide +kernel) rfl, List.forall_mem_cons.mpr ⟨
  s_iload_n (k := 1) (show decode (cod 170) 43 = .ok (.iload_n 1, 1) by decide +kernel), List.forall_mem_cons.mpr ⟨
  s_imul (show decode (cod 170) 44 = .ok (.imul, 1) by decide +kernel), List.forall_mem_cons.mpr ⟨
  s_iload_n (k := 2) (show decode (cod 170) 45 = .ok (.iload_n 2, 1) by decide +kernel), List.forall_mem_cons.mpr ⟨
  s_iadd (show decode (cod 170) 46 = .ok (.iadd, 1) by decide +kernel), List.forall_mem_cons.mpr ⟨
  s_imul (show decode (cod 170) 47 = .ok (.imul, 1) by decide +kernel), List.forall_mem_cons.mpr ⟨
  s_aload_n (k := 0) (show decode (cod 170) 48 = .ok (.aload_n 0, 1) by decide +kernel), List.forall_mem_cons.mpr ⟨
  s_iload (k := 9) (show decode (cod 170) 49 = .ok (.iload 9, 2) by decide +kernel), List.forall_mem_cons.mpr ⟨
  s_iload (k := 12) (show decode (cod 170) 51 = .ok (.iload 12, 2) by decide +kernel), List.forall_mem_cons.mpr ⟨
  s_invK rfl (rcv_virt (show decode (cod 170) 53 = .ok (.invokevirtual 219, 3) by decide +kernel) cld_170_166 ⟨11, _, _, rfl, by decide, rfl⟩ wd_748 wd_749 wd_750), List.forall_mem_cons.mpr ⟨
  s_iadd (show decode (cod 170) 56 = .ok (.iadd, 1) by decide +kernel), List.forall_mem_cons.mpr ⟨
  s_laload (show decode (cod 170) 57 = .ok (.laload, 1) by decide +kernel), List.forall_mem_cons.mpr ⟨
  s_lload (k := 10) (show decode (cod 170) 58 = .ok (.lload 10, 2) by decide +kernel), List.forall_mem_cons.mpr ⟨
  s_lmul (show decode (cod 170) 60 = .ok (.lmul, 1) by decide +kernel), List.forall_mem_cons.mpr ⟨
  s_ladd (show decode (cod 170) 61 = .ok (.ladd, 1) by decide +kernel), List.forall_mem_cons.mpr ⟨
  s_lstore (k := 5) (show decode (cod 170) 62 = .ok (.lstore 5, 2) by decide +kernel), List.forall_mem_cons.mpr ⟨
  s_lload (k := 10) (show decode (cod 170) 64 = .ok (.lload 10, 2) by decide +kernel), List.forall_mem_cons.mpr ⟨
  s_iload (k := 4) (show decode (cod 170) 66 = .ok (.iload 4, 2) by decide +kernel), fun _ h => by cases h⟩⟩⟩⟩⟩⟩⟩⟩⟩⟩⟩⟩⟩⟩⟩⟩⟩⟩⟩⟩⟩⟩⟩⟩⟩⟩⟩⟩⟩⟩⟩⟩⟩⟩⟩⟩⟩⟩⟩⟩
set_option maxRecDepth 100000 in
set_option maxHeartbeats 4000000 in
theorem si170_1 (X : CX) (l : Launch) : ∀ q ∈ ([(68, iP 69 fI2l), (69, iP 70 (f2J (fun x y => x * y))), (70, iP 72 (fLst 10)), (72, iP 75 (fInc 12 1)), (75, iP 23 fGo), (78, iP 80 (fJld 7)), (80, iP 81 (fIld 3)), (81, iP 82 fI2l), (82, iP 83 (f2J (fun x y => x * y))), (83, iP 85 (fLst 7)), (85, iP 88 (fInc 9 1)), (88, iP 9 fGo), (91, iP 93 (fJld 5)), (93, iP 96 (fK (.inr (.inl 8640)))), (96, iRJ 97 (q2J (fun x y => x - x / y * y))), (97, iP 99 (fLst 9)), (99, iP 101 (fJld 5)), (101, iP 104 (fK (.inr (.inl 8640)))), (104, iRJ 105 (q2J (fun x y => x / y))), (105, iP 106 (fIld 2)), (106, iP 107 (fK (.inl 1))), (107, iB 110 127 (b2 (fun x y => decide (x ≠ y)))), (110, iP 112 (fJld 9)), (112, iP 113 (fK (.inr (.inl 0)))), (113, iP 114 fLcmp), (114, iB 117 123 (b1 (fun x => decide (0 ≤ x)))), (117, iP 120 (fK (.inr (.inl (-1))))), (120, iP 139 fGo), (123, iP 124 (fK (.inr (.inl 0)))), (124, iP 139 fGo), (127, iP 129 (fJld 9)), (129, iP 130 (fK (.inr (.inl 0)))), (130, iP 131 fLcmp), (131, iB 134 138 (b1 (fun x => decide (x ≤ 0)))), (134, iP 135 (fK (.inr (.inl 1)))), (135, iP 139 fGo), (138, iP 139 (fK (.inr (.inl 0)))), (139, iP 140 (f2J (fun x y => x + y))), (140, iRet rJ)] : List (Nat × AS)), SI X l 170 q.1 q.2 := List.forall_mem_cons.mpr ⟨
  s_i2l (show decode (cod 170) 68 = .ok (.i2l, 1) by decide +kernel), List.forall_mem_cons.mpr ⟨
  s_lmul (show decode (cod 170) 69 = .ok (.lmul, 1) by decide +kernel), List.forall_mem_cons.mpr ⟨
  s_lstore (k := 10) (show decode (cod 170) 70 = .ok (.lstore 10, 2) by decide +kernel), List.forall_mem_cons.mpr ⟨
  s_iinc (show decode (cod 170) 72 = .ok (.iinc 12 1, 3) by decide +kernel) rfl, List.forall_mem_cons.mpr ⟨
  s_goto (show decode (cod 170) 75 = .ok (.goto (-52), 3) by decide +kernel) (by decide), List.forall_mem_cons.mpr ⟨
  s_lload (k := 7) (show decode (cod 170) 78 = .ok (.lload 7, 2) by decide +kernel), List.forall_mem_cons.mpr ⟨
  s_iload_n (k := 3) (show decode (cod 170) 80 = .ok (.iload_n 3, 1) by decide +kernel), List.forall_mem_cons.mpr ⟨
  s_i2l (show decode (cod 170) 81 = .ok (.i2l, 1) by decide +kernel), List.forall_mem_cons.mpr ⟨
  s_lmul (show decode (cod 170) 82 = .ok (.lmul, 1) by decide +kernel), List.forall_mem_cons.mpr ⟨
  s_lstore (k := 7) (show decode (cod 170) 83 = .ok (.lstore 7, 2) by decide +kernel), List.forall_mem_cons.mpr ⟨
  s_iinc (show decode (cod 170) 85 = .ok (.iinc 9 1, 3) by decide +kernel) rfl, List.forall_mem_cons.mpr ⟨
  s_goto (show decode (cod 170) 88 = .ok (.goto (-79), 3) by decide +kernel) (by decide), List.forall_mem_cons.mpr ⟨
  s_lload (k := 5) (show decode (cod 170) 91 = .ok (.lload 5, 2) by decide +kernel), List.forall_mem_cons.mpr ⟨
  s_ldc2 (show decode (cod 170) 93 = .ok (.ldc2_w 191, 3) by decide +kernel) wd_710, List.forall_mem_cons.mpr ⟨
  s_lrem (show decode (cod 170) 96 = .ok (.lrem, 1) by decide +kernel), List.forall_mem_cons.mpr ⟨
  s_lstore (k := 9) (show decode (cod 170) 97 = .ok (.lstore 9, 2) by decide +kernel), List.forall_mem_cons.mpr ⟨
  s_lload (k := 5) (show decode (cod 170) 99 = .ok (.lload 5, 2) by decide +kernel), List.forall_mem_cons.mpr ⟨
  s_ldc2 (show decode (cod 170) 101 = .ok (.ldc2_w 191, 3) by decide +kernel) wd_710, List.forall_mem_cons.mpr ⟨
  s_ldiv (show decode (cod 170) 104 = .ok (.ldiv, 1) by decide +kernel), List.forall_mem_cons.mpr ⟨
  s_iload_n (k := 2) (show decode (cod 170) 105 = .ok (.iload_n 2, 1) by decide +kernel), List.forall_mem_cons.mpr ⟨
  s_iconst (show decode (cod 170) 106 = .ok (.iconst 1, 1) by decide +kernel) rfl, List.forall_mem_cons.mpr ⟨
  s_icmpne (show decode (cod 170) 107 = .ok (.if_icmp .ne 20, 3) by decide +kernel) (by decide), List.forall_mem_cons.mpr ⟨
  s_lload (k := 9) (show decode (cod 170) 110 = .ok (.lload 9, 2) by decide +kernel), List.forall_mem_cons.mpr ⟨
  s_lconst (show decode (cod 170) 112 = .ok (.lconst 0, 1) by decide +kernel) rfl, List.forall_mem_cons.mpr ⟨
  s_lcmp (show decode (cod 170) 113 = .ok (.lcmp, 1) by decide +kernel), List.forall_mem_cons.mpr ⟨
  s_ifge (show decode (cod 170) 114 = .ok (.ifCond .ge 9, 3) by decide +kernel) (by decide), List.forall_mem_cons.mpr ⟨
  s_ldc2 (show decode (cod 170) 117 = .ok (.ldc2_w 226, 3) by decide +kernel) wd_762, List.forall_mem_cons.mpr ⟨
  s_goto (show decode (cod 170) 120 = .ok (.goto 19, 3) by decide +kernel) (by decide), List.forall_mem_cons.mpr ⟨
  s_lconst (show decode (cod 170) 123 = .ok (.lconst 0, 1) by decide +kernel) rfl, List.forall_mem_cons.mpr ⟨
  s_goto (show decode (cod 170) 124 = .ok (.goto 15, 3) by decide +kernel) (by decide), List.forall_mem_cons.mpr ⟨
  s_lload (k := 9) (show decode (cod 170) 127 = .ok (.lload 9, 2) by decide +kernel), List.forall_mem_cons.mpr ⟨
  s_lconst (show decode (cod 170) 129 = .ok (.lconst 0, 1) by decide +kernel) rfl, List.forall_mem_cons.mpr ⟨
  s_lcmp (show decode (cod 170) 130 = .ok (.lcmp, 1) by decide +kernel), List.forall_mem_cons.mpr ⟨
  s_ifle (show decode (cod 170) 131 = .ok (.ifCond .le 7, 3) by decide +kernel) (by decide), List.forall_mem_cons.mpr ⟨
  s_lconst (show decode (cod 170) 134 = .ok (.lconst 1, 1) by decide +kernel) rfl, List.forall_mem_cons.mpr ⟨
  s_goto (show decode (cod 170) 135 = .ok (.goto 4, 3) by decide +kernel) (by decide), List.forall_mem_cons.mpr ⟨
  s_lconst (show decode (cod 170) 138 = .ok (.lconst 0, 1) by decide +kernel) rfl, List.forall_mem_cons.mpr ⟨
  s_ladd (show decode (cod 170) 139 = .ok (.ladd, 1) by decide +kernel), List.forall_mem_cons.mpr ⟨
  s_ret (show decode (cod 170) 140 = .ok (.lreturn, 1) by decide +kernel) rJ_ok (fun h => by cases h), fun _ h => by cases h⟩⟩⟩⟩⟩⟩⟩⟩⟩⟩⟩⟩⟩⟩⟩⟩⟩⟩⟩⟩⟩⟩⟩⟩⟩⟩⟩⟩⟩⟩⟩⟩⟩⟩⟩⟩⟩⟩⟩
set_option maxRecDepth 100000 in
theorem si170 (X : CX) (l : Launch) : ∀ q ∈ pt170, SI X l 170 q.1 q.2 := (List.forall_mem_append (l₁ := _) (l₂ := _)).mpr ⟨si170_0 X l, si170_1 X l⟩
set_option maxRecDepth 100000 in
set_option maxHeartbeats 4000000 in
theorem si171_0 (X : CX) (l : Launch) : ∀ q ∈ ([(0, iP 1 (fAld 0)), (1, iP 2 (fIld 1)), (2, iCK 5 12 132 2 2 1), (5, iB 8 11 (b1 (fun x => decide (x ≠ 0)))), (8, iP 10 (fK (.inl (-1000001)))), (10, iRet rI), (11, iP 12 (fAld 0)), (12, iP 13 (fIld 1)), (13, iP 14 (fK (.inl 0))), (14, iCK 17 12 152 3 3 1), (17, iP 18 (fIst 2)), (18, iP 19 (fIld 2)), (19, iB 22 31 (b1 (fun x => decide (x ≠ 0)))), (22, iP 23 (fAld 0)), (23, iP 24 (fIld 1)), (24, iP 25 (fK (.inl 1))), (25, iCK 28 12 152 3 3 1), (28, iP 32 fGo), (31, iP 32 (fIld 2)), (32, iP 33 (fIst 2)), (33, iP 34 (fIld 2)), (34, iB 37 41 (b1 (fun x => decide (x = 0)))), (37, iP 38 (fIld 2)), (38, iP 54 fGo), (41, iP 42 (fAld 0)), (42, iP 43 (fIld 1)), (43, iCK 46 12 172 4 2 1), (46, iB 49 53 (b1 (fun x => decide (x = 0)))), (49, iP 50 (fK (.inl 1))), (50, iP 54 fGo), (53, iP 54 (fK (.inl 0))), (54, iRet rI)] : List (Nat × AS)), SI X l 171 q.1 q.2 := List.forall_mem_cons.mpr ⟨
  s_aload_n (k := 0) (show decode (cod 171) 0 = .ok (.aload_n 0, 1) by decide +kernel), List.forall_mem_cons.mpr ⟨
  s_iload_n (k := 1) (show decode (cod 171) 1 = .ok (.iload_n 1, 1) by decide +kernel), List.forall_mem_cons.mpr ⟨
  s_invK rfl (rcv_virt (show decode (cod 171) 2 = .ok (.invokevirtual 118, 3) by decide +kernel) cld_171_132 ⟨11, _, _, rfl, by decide, rfl⟩ wd_646 wd_647 wd_648), List.forall_mem_cons.mpr ⟨
  s_ifne (show decode (cod 171) 5 = .ok (.ifCond .ne 6, 3) by decide +kernel) (by decide), List.forall_mem_cons.mpr ⟨
  s_ldc (show decode (cod 171) 8 = .ok (.ldc 111, 2) by decide +kernel) wd_644, List.forall_mem_cons.mpr ⟨
  s_ret (show decode (cod 171) 10 = .ok (.ireturn, 1) by decide +kernel) rI_ok (fun h => by cases h), List.forall_mem_cons.mpr ⟨
  s_aload_n (k := 0) (show decode (cod 171) 11 = .ok (.aload_n 0, 1) by decide +kernel), List.forall_mem_cons.mpr ⟨
  s_iload_n (k := 1) (show decode (cod 171) 12 = .ok (.iload_n 1, 1) by decide +kernel), List.forall_mem_cons.mpr ⟨
  s_iconst (show decode (cod 171) 13 = .ok (.iconst 0, 1) by decide +kernel) rfl, List.forall_mem_cons.mpr ⟨
  s_invK rfl (rcv_virt (show decode (cod 171) 14 = .ok (.invokevirtual 209, 3) by decide +kernel) cld_171_152 ⟨11, _, _, rfl, by decide, rfl⟩ wd_691 wd_692 wd_693), List.forall_mem_cons.mpr ⟨
  s_istore_n (k := 2) (show decode (cod 171) 17 = .ok (.istore_n 2, 1) by decide +kernel), List.forall_mem_cons.mpr ⟨
  s_iload_n (k := 2) (show decode (cod 171) 18 = .ok (.iload_n 2, 1) by decide +kernel), List.forall_mem_cons.mpr ⟨
  s_ifne (show decode (cod 171) 19 = .ok (.ifCond .ne 12, 3) by decide +kernel) (by decide), List.forall_mem_cons.mpr ⟨
  s_aload_n (k := 0) (show decode (cod 171) 22 = .ok (.aload_n 0, 1) by decide +kernel), List.forall_mem_cons.mpr ⟨
  s_iload_n (k := 1) (show decode (cod 171) 23 = .ok (.iload_n 1, 1) by decide +kernel), List.forall_mem_cons.mpr ⟨
  s_iconst (show decode (cod 171) 24 = .ok (.iconst 1, 1) by decide +kernel) rfl, List.forall_mem_cons.mpr ⟨
  s_invK rfl (rcv_virt (show decode (cod 171) 25 = .ok (.invokevirtual 209, 3) by decide +kernel) cld_171_152 ⟨11, _, _, rfl, by decide, rfl⟩ wd_691 wd_692 wd_693), List.forall_mem_cons.mpr ⟨
  s_goto (show decode (cod 171) 28 = .ok (.goto 4, 3) by decide +kernel) (by decide), List.forall_mem_cons.mpr ⟨
  s_iload_n (k := 2) (show decode (cod 171) 31 = .ok (.iload_n 2, 1) by decide +kernel), List.forall_mem_cons.mpr ⟨
  s_istore_n (k := 2) (show decode (cod 171) 32 = .ok (.istore_n 2, 1) by decide +kernel), List.forall_mem_cons.mpr ⟨
  s_iload_n (k := 2) (show decode (cod 171) 33 = .ok (.iload_n 2, 1) by decide +kernel), List.forall_mem_cons.mpr ⟨
  s_ifeq (show decode (cod 171) 34 = .ok (.ifCond .eq 7, 3) by decide +kernel) (by decide), List.forall_mem_cons.mpr ⟨
  s_iload_n (k := 2) (show decode (cod 171) 37 = .ok (.iload_n 2, 1) by decide +kernel), List.forall_mem_cons.mpr ⟨
  s_goto (show decode (cod 171) 38 = .ok (.goto 16, 3) by decide +kernel) (by decide), List.forall_mem_cons.mpr ⟨
  s_aload_n (k := 0) (show decode (cod 171) 41 = .ok (.aload_n 0, 1) by decide +kernel), List.forall_mem_cons.mpr ⟨
  s_iload_n (k := 1) (show decode (cod 171) 42 = .ok (.iload_n 1, 1) by decide +kernel), List.forall_mem_cons.mpr ⟨
  s_invK rfl (rcv_virt (show decode (cod 171) 43 = .ok (.invokevirtual 237, 3) by decide +kernel) cld_171_172 ⟨11, _, _, rfl, by decide, rfl⟩ wd_764 wd_765 wd_766), List.forall_mem_cons.mpr ⟨
  s_ifeq (show decode (cod 171) 46 = .ok (.ifCond .eq 7, 3) by decide +kernel) (by decide), List.forall_mem_cons.mpr ⟨
  s_iconst (show decode (cod 171) 49 = .ok (.iconst 1, 1) by decide +kernel) rfl, List.forall_mem_cons.mpr ⟨
  s_goto (show decode (cod 171) 50 = .ok (.goto 4, 3) by decide +kernel) (by decide), List.forall_mem_cons.mpr ⟨
  s_iconst (show decode (cod 171) 53 = .ok (.iconst 0, 1) by decide +kernel) rfl, List.forall_mem_cons.mpr ⟨
  s_ret (show decode (cod 171) 54 = .ok (.ireturn, 1) by decide +kernel) rI_ok (fun h => by cases h), fun _ h => by cases h⟩⟩⟩⟩⟩⟩⟩⟩⟩⟩⟩⟩⟩⟩⟩⟩⟩⟩⟩⟩⟩⟩⟩⟩⟩⟩⟩⟩⟩⟩⟩⟩
set_option maxRecDepth 100000 in
theorem si171 (X : CX) (l : Launch) : ∀ q ∈ pt171, SI X l 171 q.1 q.2 :=  si171_0 X l
set_option maxRecDepth 100000 in
set_option maxHeartbeats 4000000 in
theorem si172_0 (X : CX) (l : Launch) : ∀ q ∈ ([(0, iP 1 (fK (.inl 1))), (1, iP 2 (fIst 2)), (2, iP 3 (fK (.inl 0))), (3, iP 4 (fIst 3)), (4, iP 5 (fIld 3)), (5, iP 8 (fK (.inl 252))), (8, iB 11 59 (b2 (fun x y => decide (y ≤ x)))), (11, iP 12 (fIld 2)), (12, iB 15 51 (b1 (fun x => decide (x = 0)))), (15, iP 16 (fAld 0)), (16, iRR 19 (gtR 67)), (19, iP 22 (fK (.inl 504))), (22, iP 23 (fIld 1)), (23, iP 24 (f2I (fun x y => x * y))), (24, iP 25 (fIld 3)), (25, iP 26 (f2I (fun x y => x + y))), (26, iRJ 27 qAJ), (27, iP 28 (fAld 0)), (28, iRR 31 (gtR 67)), (31, iP 34 (fK (.inl 252))), (34, iP 35 (fK (.inl 2))), (35, iP 36 (fIld 1)), (36, iP 37 (f2I (fun x y => x * y))), (37, iP 38 (fK (.inl 1))), (38, iP 39 (f2I (fun x y => x + y))), (39, iP 40 (f2I (fun x y => x * y))), (40, iP 41 (fIld 3)), (41, iP 42 (f2I (fun x y => x + y))), (42, iRJ 43 qAJ), (43, iP 44 fLcmp), (44, iB 47 51 (b1 (fun x => decide (x ≠ 0)))), (47, iP 48 (fK (.inl 1))), (48, iP 52 fGo), (51, iP 52 (fK (.inl 0))), (52, iP 53 (fIst 2)), (53, iP 56 (fInc 3 1)), (56, iP 4 fGo), (59, iP 60 (fIld 2)), (60, iRet rZ)] : List (Nat × AS)), SI X l 172 q.1 q.2 := List.forall_mem_cons.mpr ⟨
  s_iconst (show decode (cod 172) 0 = .ok (.iconst 1, 1) by decide +kernel) rfl, List.forall_mem_cons.mpr ⟨
  s_istore_n (k := 2) (show decode (cod 172) 1 = .ok (.istore_n 2, 1) by decide +kernel), List.forall_mem_cons.mpr ⟨
  s_iconst (show decode (cod 172) 2 = .ok (.iconst 0, 1) by decide +kernel) rfl, List.forall_mem_cons.mpr ⟨
  s_istore_n (k := 3) (show decode (cod 172) 3 = .ok (.istore_n 3, 1) by decide +kernel), List.forall_mem_cons.mpr ⟨
  s_iload_n (k := 3) (show decode (cod 172) 4 = .ok (.iload_n 3, 1) by decide +kernel), List.forall_mem_cons.mpr ⟨
  s_sipush (show decode (cod 172) 5 = .ok (.sipush 252, 3) by decide +kernel) rfl, List.forall_mem_cons.mpr ⟨
  s_icmpge (show decode (cod 172) 8 = .ok (.if_icmp .ge 51, 3) by decide +kernel) (by decide), List.forall_mem_cons.mpr ⟨
  s_iload_n (k := 2) (show decode (cod 172) 11 = .ok (.iload_n 2, 1) by decide +kernel), List.forall_mem_cons.mpr ⟨
  s_ifeq (show decode (cod 172) 12 = .ok (.ifCond .eq 39, 3) by decide +kernel) (by decide), List.forall_mem_cons.mpr ⟨
  s_aload_n (k := 0) (show decode (cod 172) 15 = .ok (.aload_n 0, 1) by decide +kernel), List.forall_mem_cons.mpr ⟨
  s_getR (show decode (cod 172) 16 = .ok (.getfield 47, 3) by decide +kernel) wd_619 (Or.inl rfl) rfl, List.forall_mem_cons.mpr ⟨
  s_sipush (show decode (cod 172) 19 = .ok (.sipush 504, 3) by decide +kernel) rfl, List.forall_mem_cons.mpr ⟨
  s_iload_n (k := 1) (show decode (cod 172) 22 = .ok (.iload_n 1, 1) by decide +kernel), List.forall_mem_cons.mpr ⟨
  s_imul (show decode (cod 172) 23 = .ok (.imul, 1) by decide +kernel), List.forall_mem_cons.mpr ⟨
  s_iload_n (k := 3) (show decode (cod 172) 24 = .ok (.iload_n 3, 1) by decide +kernel), List.forall_mem_cons.mpr ⟨
  s_iadd (show decode (cod 172) 25 = .ok (.iadd, 1) by decide +kernel), List.forall_mem_cons.mpr ⟨
  s_laload (show decode (cod 172) 26 = .ok (.laload, 1) by decide +kernel), List.forall_mem_cons.mpr ⟨
  s_aload_n (k := 0) (show decode (cod 172) 27 = .ok (.aload_n 0, 1) by decide +kernel), List.forall_mem_cons.mpr ⟨
  s_getR (show decode (cod 172) 28 = .ok (.getfield 47, 3) by decide +kernel) wd_619 (Or.inl rfl) rfl, List.forall_mem_cons.mpr ⟨
  s_sipush (show decode (cod 172) 31 = .ok (.sipush 252, 3) by decide +kernel) rfl, List.forall_mem_cons.mpr ⟨
  s_iconst (show decode (cod 172) 34 = .ok (.iconst 2, 1) by decide +kernel) rfl, List.forall_mem_cons.mpr ⟨
  s_iload_n (k := 1) (show decode (cod 172) 35 = .ok (.iload_n 1, 1) by decide +kernel), List.forall_mem_cons.mpr ⟨
  s_imul (show decode (cod 172) 36 = .ok (.imul, 1) by decide +kernel), List.forall_mem_cons.mpr ⟨
  s_iconst (show decode (cod 172) 37 = .ok (.iconst 1, 1) by decide +kernel) rfl, List.forall_mem_cons.mpr ⟨
  s_iadd (show decode (cod 172) 38 = .ok (.iadd, 1) by decide +kernel), List.forall_mem_cons.mpr ⟨
  s_imul (show decode (cod 172) 39 = .ok (.imul, 1) by decide +kernel), List.forall_mem_cons.mpr ⟨
  s_iload_n (k := 3) (show decode (cod 172) 40 = .ok (.iload_n 3, 1) by decide +kernel), List.forall_mem_cons.mpr ⟨
  s_iadd (show decode (cod 172) 41 = .ok (.iadd, 1) by decide +kernel), List.forall_mem_cons.mpr ⟨
  s_laload (show decode (cod 172) 42 = .ok (.laload, 1) by decide +kernel), List.forall_mem_cons.mpr ⟨
  s_lcmp (show decode (cod 172) 43 = .ok (.lcmp, 1) by decide +kernel), List.forall_mem_cons.mpr ⟨
  s_ifne (show decode (cod 172) 44 = .ok (.ifCond .ne 7, 3) by decide +kernel) (by decide), List.forall_mem_cons.mpr ⟨
  s_iconst (show decode (cod 172) 47 = .ok (.iconst 1, 1) by decide +kernel) rfl, List.forall_mem_cons.mpr ⟨
  s_goto (show decode (cod 172) 48 = .ok (.goto 4, 3) by decide +kernel) (by decide), List.forall_mem_cons.mpr ⟨
  s_iconst (show decode (cod 172) 51 = .ok (.iconst 0, 1) by decide +kernel) rfl, List.forall_mem_cons.mpr ⟨
  s_istore_n (k := 2) (show decode (cod 172) 52 = .ok (.istore_n 2, 1) by decide +kernel), List.forall_mem_cons.mpr ⟨
  s_iinc (show decode (cod 172) 53 = .ok (.iinc 3 1, 3) by decide +kernel) rfl, List.forall_mem_cons.mpr ⟨
  s_goto (show decode (cod 172) 56 = .ok (.goto (-52), 3) by decide +kernel) (by decide), List.forall_mem_cons.mpr ⟨
  s_iload_n (k := 2) (show decode (cod 172) 59 = .ok (.iload_n 2, 1) by decide +kernel), List.forall_mem_cons.mpr ⟨
  s_ret (show decode (cod 172) 60 = .ok (.ireturn, 1) by decide +kernel) rZ_ok (fun _ => rZ_b), fun _ h => by cases h⟩⟩⟩⟩⟩⟩⟩⟩⟩⟩⟩⟩⟩⟩⟩⟩⟩⟩⟩⟩⟩⟩⟩⟩⟩⟩⟩⟩⟩⟩⟩⟩⟩⟩⟩⟩⟩⟩⟩
set_option maxRecDepth 100000 in
theorem si172 (X : CX) (l : Launch) : ∀ q ∈ pt172, SI X l 172 q.1 q.2 :=  si172_0 X l
set_option maxRecDepth 100000 in
set_option maxHeartbeats 4000000 in
theorem si173_0 (X : CX) (l : Launch) : ∀ q ∈ ([(0, iP 1 (fAld 0)), (1, iP 2 (fIld 1)), (2, iCK 5 12 132 2 2 1), (5, iB 8 29 (b1 (fun x => decide (x = 0)))), (8, iP 9 (fIld 2)), (9, iP 10 (fIld 3)), (10, iC 13 169 2 2 1), (13, iB 16 29 (b1 (fun x => decide (x = 0)))), (16, iP 18 (fIld 4)), (18, iP 19 fI2l), (19, iP 20 (fK (.inr (.inl 0)))), (20, iP 23 (fK (.inr (.inl 4)))), (23, iC 26 130 6 3 1), (26, iB 29 32 (b1 (fun x => decide (x ≠ 0)))), (29, iP 31 (fK (.inl (-1000001)))), (31, iRet rI), (32, iP 33 (fAld 0)), (33, iCK 36 12 153 3 1 0), (36, iP 37 (fAld 0)), (37, iRR 40 (gtR 68)), (40, iP 41 (fIld 1)), (41, iRI 42 qAZ), (42, iB 45 57 (b1 (fun x => decide (x = 0)))), (45, iP 46 (fAld 0)), (46, iP 47 (fIld 1)), (47, iP 48 (fIld 2)), (48, iP 49 (fIld 3)), (49, iP 51 (fIld 4)), (51, iCK 54 12 174 10 5 1), (54, iP 59 fGo), (57, iP 59 (fK (.inl (-1000002)))), (59, iRet rI)] : List (Nat × AS)), SI X l 173 q.1 q.2 := List.forall_mem_cons.mpr ⟨
  s_aload_n (k := 0) (show decode (cod 173) 0 = .ok (.aload_n 0, 1) by decide +kernel), List.forall_mem_cons.mpr ⟨
  s_iload_n (k := 1) (show decode (cod 173) 1 = .ok (.iload_n 1, 1) by decide +kernel), List.forall_mem_cons.mpr ⟨
  s_invK rfl (rcv_virt (show decode (cod 173) 2 = .ok (.invokevirtual 118, 3) by decide +kernel) cld_173_132 ⟨11, _, _, rfl, by decide, rfl⟩ wd_646 wd_647 wd_648), List.forall_mem_cons.mpr ⟨
  s_ifeq (show decode (cod 173) 5 = .ok (.ifCond .eq 24, 3) by decide +kernel) (by decide), List.forall_mem_cons.mpr ⟨
  s_iload_n (k := 2) (show decode (cod 173) 8 = .ok (.iload_n 2, 1) by decide +kernel), List.forall_mem_cons.mpr ⟨
  s_iload_n (k := 3) (show decode (cod 173) 9 = .ok (.iload_n 3, 1) by decide +kernel), List.forall_mem_cons.mpr ⟨
  s_invS (show decode (cod 173) 10 = .ok (.invokestatic 230, 3) by decide +kernel) rfl cld_173_169 wd_755 wd_756, List.forall_mem_cons.mpr ⟨
  s_ifeq (show decode (cod 173) 13 = .ok (.ifCond .eq 16, 3) by decide +kernel) (by decide), List.forall_mem_cons.mpr ⟨
  s_iload (k := 4) (show decode (cod 173) 16 = .ok (.iload 4, 2) by decide +kernel), List.forall_mem_cons.mpr ⟨
  s_i2l (show decode (cod 173) 18 = .ok (.i2l, 1) by decide +kernel), List.forall_mem_cons.mpr ⟨
  s_lconst (show decode (cod 173) 19 = .ok (.lconst 0, 1) by decide +kernel) rfl, List.forall_mem_cons.mpr ⟨
  s_ldc2 (show decode (cod 173) 20 = .ok (.ldc2_w 274, 3) by decide +kernel) wd_767, List.forall_mem_cons.mpr ⟨
  s_invS (show decode (cod 173) 23 = .ok (.invokestatic 100, 3) by decide +kernel) rfl cld_173_130 wd_641 wd_642, List.forall_mem_cons.mpr ⟨
  s_ifne (show decode (cod 173) 26 = .ok (.ifCond .ne 6, 3) by decide +kernel) (by decide), List.forall_mem_cons.mpr ⟨
  s_ldc (show decode (cod 173) 29 = .ok (.ldc 111, 2) by decide +kernel) wd_644, List.forall_mem_cons.mpr ⟨
  s_ret (show decode (cod 173) 31 = .ok (.ireturn, 1) by decide +kernel) rI_ok (fun h => by cases h), List.forall_mem_cons.mpr ⟨
  s_aload_n (k := 0) (show decode (cod 173) 32 = .ok (.aload_n 0, 1) by decide +kernel), List.forall_mem_cons.mpr ⟨
  s_invK rfl (rcv_virt (show decode (cod 173) 33 = .ok (.invokevirtual 206, 3) by decide +kernel) cld_173_153 ⟨11, _, _, rfl, by decide, rfl⟩ wd_699 wd_700 wd_701), List.forall_mem_cons.mpr ⟨
  s_aload_n (k := 0) (show decode (cod 173) 36 = .ok (.aload_n 0, 1) by decide +kernel), List.forall_mem_cons.mpr ⟨
  s_getR (show decode (cod 173) 37 = .ok (.getfield 51, 3) by decide +kernel) wd_621 (Or.inl rfl) rfl, List.forall_mem_cons.mpr ⟨
  s_iload_n (k := 1) (show decode (cod 173) 40 = .ok (.iload_n 1, 1) by decide +kernel), List.forall_mem_cons.mpr ⟨
  s_baload (show decode (cod 173) 41 = .ok (.baload, 1) by decide +kernel), List.forall_mem_cons.mpr ⟨
  s_ifeq (show decode (cod 173) 42 = .ok (.ifCond .eq 15, 3) by decide +kernel) (by decide), List.forall_mem_cons.mpr ⟨
  s_aload_n (k := 0) (show decode (cod 173) 45 = .ok (.aload_n 0, 1) by decide +kernel), List.forall_mem_cons.mpr ⟨
  s_iload_n (k := 1) (show decode (cod 173) 46 = .ok (.iload_n 1, 1) by decide +kernel), List.forall_mem_cons.mpr ⟨
  s_iload_n (k := 2) (show decode (cod 173) 47 = .ok (.iload_n 2, 1) by decide +kernel), List.forall_mem_cons.mpr ⟨
  s_iload_n (k := 3) (show decode (cod 173) 48 = .ok (.iload_n 3, 1) by decide +kernel), List.forall_mem_cons.mpr ⟨
  s_iload (k := 4) (show decode (cod 173) 49 = .ok (.iload 4, 2) by decide +kernel), List.forall_mem_cons.mpr ⟨
  s_invK rfl (rcv_virt (show decode (cod 173) 51 = .ok (.invokevirtual 276, 3) by decide +kernel) cld_173_174 ⟨11, _, _, rfl, by decide, rfl⟩ wd_769 wd_770 wd_771), List.forall_mem_cons.mpr ⟨
  s_goto (show decode (cod 173) 54 = .ok (.goto 5, 3) by decide +kernel) (by decide), List.forall_mem_cons.mpr ⟨
  s_ldc (show decode (cod 173) 57 = .ok (.ldc 133, 2) by decide +kernel) wd_660, List.forall_mem_cons.mpr ⟨
  s_ret (show decode (cod 173) 59 = .ok (.ireturn, 1) by decide +kernel) rI_ok (fun h => by cases h), fun _ h => by cases h⟩⟩⟩⟩⟩⟩⟩⟩⟩⟩⟩⟩⟩⟩⟩⟩⟩⟩⟩⟩⟩⟩⟩⟩⟩⟩⟩⟩⟩⟩⟩⟩
set_option maxRecDepth 100000 in
theorem si173 (X : CX) (l : Launch) : ∀ q ∈ pt173, SI X l 173 q.1 q.2 :=  si173_0 X l
set_option maxRecDepth 100000 in
set_option maxHeartbeats 4000000 in
theorem si174_0 (X : CX) (l : Launch) : ∀ q ∈ ([(0, iP 1 (fAld 0)), (1, iP 2 (fK (.inl 0))), (2, iW 5 (ptI 76)), (5, iP 6 (fAld 0)), (6, iP 7 (fK (.inr (.inl 0)))), (7, iW 10 (ptJ 77)), (10, iP 11 (fAld 0)), (11, iP 13 (fK (.inl 24))), (13, iP 14 (fIld 1)), (14, iP 15 (f2I (fun x y => x * y))), (15, iW 18 (ptI 78)), (18, iP 19 (fIld 1)), (19, iP 21 (fIst 5)), (21, iP 22 (fAld 0)), (22, iP 23 (fIld 2)), (23, iW 26 (ptI 79)), (26, iP 27 (fAld 0)), (27, iP 28 (fIld 3)), (28, iW 31 (ptI 80)), (31, iP 32 (fAld 0)), (32, iP 33 (fK (.inl 0))), (33, iW 36 (ptI 81)), (36, iP 37 (fAld 0)), (37, iP 38 (fK (.inl 0))), (38, iW 41 (ptI 83)), (41, iP 42 (fAld 0)), (42, iRI 45 (gtI 78)), (45, iP 47 (fK (.inl 24))), (47, iP 49 (fIld 5)), (49, iP 50 (f2I (fun x y => x * y))), (50, iP 51 (fAld 0)), (51, iRR 54 (gtR 51)), (54, iP 56 (fIld 5)), (56, iRI 57 qAI), (57, iP 58 (f2I (fun x y => x + y))), (58, iB 61 68 (b2 (fun x y => decide (x < y)))), (61, iP 62 (fAld 0)), (62, iRI 65 (gtI 83)), (65, iB 68 1059 (b1 (fun x => decide (x ≤ 0)))), (68, iP 69 (fAld 0))] : List (Nat × AS)), SI X l 174 q.1 q.2 := List.forall_mem_cons.mpr ⟨
  s_aload_n (k := 0) (show decode (cod 174) 0 = .ok (.aload_n 0, 1) by decide +kernel), List.forall_mem_cons.mpr ⟨
  s_iconst (show decode (cod 174) 1 = .ok (.iconst 0, 1) by decide +kernel) rfl, List.forall_mem_cons.mpr ⟨
  s_putI (show decode (cod 174) 2 = .ok (.putfield 249, 3) by decide +kernel) wd_772 (Or.inl rfl) (Or.inl rfl) rfl, List.forall_mem_cons.mpr ⟨
  s_aload_n (k := 0) (show decode (cod 174) 5 = .ok (.aload_n 0, 1) by decide +kernel), List.forall_mem_cons.mpr ⟨
  s_lconst (show decode (cod 174) 6 = .ok (.lconst 0, 1) by decide +kernel) rfl, List.forall_mem_cons.mpr ⟨
  s_putJ (show decode (cod 174) 7 = .ok (.putfield 252, 3) by decide +kernel) wd_773 (Or.inl rfl) (Or.inl rfl) rfl, List.forall_mem_cons.mpr ⟨
  s_aload_n (k := 0) (show decode (cod 174) 10 = .ok (.aload_n 0, 1) by decide +kernel), List.forall_mem_cons.mpr ⟨
  s_bipush (show decode (cod 174) 11 = .ok (.bipush 24, 2) by decide +kernel) rfl, List.forall_mem_cons.mpr ⟨
  s_iload_n (k := 1) (show decode (cod 174) 13 = .ok (.iload_n 1, 1) by decide +kernel), List.forall_mem_cons.mpr ⟨
  s_imul (show decode (cod 174) 14 = .ok (.imul, 1) by decide +kernel), List.forall_mem_cons.mpr ⟨
  s_putI (show decode (cod 174) 15 = .ok (.putfield 256, 3) by decide +kernel) wd_774 (Or.inl rfl) (Or.inl rfl) rfl, List.forall_mem_cons.mpr ⟨
  s_iload_n (k := 1) (show decode (cod 174) 18 = .ok (.iload_n 1, 1) by decide +kernel), List.forall_mem_cons.mpr ⟨
  s_istore (k := 5) (show decode (cod 174) 19 = .ok (.istore 5, 2) by decide +kernel), List.forall_mem_cons.mpr ⟨
  s_aload_n (k := 0) (show decode (cod 174) 21 = .ok (.aload_n 0, 1) by decide +kernel), List.forall_mem_cons.mpr ⟨
  s_iload_n (k := 2) (show decode (cod 174) 22 = .ok (.iload_n 2, 1) by decide +kernel), List.forall_mem_cons.mpr ⟨
  s_putI (show decode (cod 174) 23 = .ok (.putfield 240, 3) by decide +kernel) wd_775 (Or.inl rfl) (Or.inl rfl) rfl, List.forall_mem_cons.mpr ⟨
  s_aload_n (k := 0) (show decode (cod 174) 26 = .ok (.aload_n 0, 1) by decide +kernel), List.forall_mem_cons.mpr ⟨
  s_iload_n (k := 3) (show decode (cod 174) 27 = .ok (.iload_n 3, 1) by decide +kernel), List.forall_mem_cons.mpr ⟨
  s_putI (show decode (cod 174) 28 = .ok (.putfield 243, 3) by decide +kernel) wd_776 (Or.inl rfl) (Or.inl rfl) rfl, List.forall_mem_cons.mpr ⟨
  s_aload_n (k := 0) (show decode (cod 174) 31 = .ok (.aload_n 0, 1) by decide +kernel), List.forall_mem_cons.mpr ⟨
  s_iconst (show decode (cod 174) 32 = .ok (.iconst 0, 1) by decide +kernel) rfl, List.forall_mem_cons.mpr ⟨
  s_putI (show decode (cod 174) 33 = .ok (.putfield 246, 3) by decide +kernel) wd_777 (Or.inl rfl) (Or.inl rfl) rfl, List.forall_mem_cons.mpr ⟨
  s_aload_n (k := 0) (show decode (cod 174) 36 = .ok (.aload_n 0, 1) by decide +kernel), List.forall_mem_cons.mpr ⟨
  s_iconst (show decode (cod 174) 37 = .ok (.iconst 0, 1) by decide +kernel) rfl, List.forall_mem_cons.mpr ⟨
  s_putI (show decode (cod 174) 38 = .ok (.putfield 259, 3) by decide +kernel) wd_778 (Or.inl rfl) (Or.inl rfl) rfl, List.forall_mem_cons.mpr ⟨
  s_aload_n (k := 0) (show decode (cod 174) 41 = .ok (.aload_n 0, 1) by decide +kernel), List.forall_mem_cons.mpr ⟨
  s_getI (show decode (cod 174) 42 = .ok (.getfield 256, 3) by decide +kernel) wd_774 (Or.inl rfl) (Or.inl rfl), List.forall_mem_cons.mpr ⟨
  s_bipush (show decode (cod 174) 45 = .ok (.bipush 24, 2) by decide +kernel) rfl, List.forall_mem_cons.mpr ⟨
  s_iload (k := 5) (show decode (cod 174) 47 = .ok (.iload 5, 2) by decide +kernel), List.forall_mem_cons.mpr ⟨
  s_imul (show decode (cod 174) 49 = .ok (.imul, 1) by decide +kernel), List.forall_mem_cons.mpr ⟨
  s_aload_n (k := 0) (show decode (cod 174) 50 = .ok (.aload_n 0, 1) by decide +kernel), List.forall_mem_cons.mpr ⟨
  s_getR (show decode (cod 174) 51 = .ok (.getfield 7, 3) by decide +kernel) wd_607 (Or.inl rfl) rfl, List.forall_mem_cons.mpr ⟨
  s_iload (k := 5) (show decode (cod 174) 54 = .ok (.iload 5, 2) by decide +kernel), List.forall_mem_cons.mpr ⟨
  s_iaload (show decode (cod 174) 56 = .ok (.iaload, 1) by decide +kernel), List.forall_mem_cons.mpr ⟨
  s_iadd (show decode (cod 174) 57 = .ok (.iadd, 1) by decide +kernel), List.forall_mem_cons.mpr ⟨
  s_icmplt (show decode (cod 174) 58 = .ok (.if_icmp .lt 10, 3) by decide +kernel) (by decide), List.forall_mem_cons.mpr ⟨
  s_aload_n (k := 0) (show decode (cod 174) 61 = .ok (.aload_n 0, 1) by decide +kernel), List.forall_mem_cons.mpr ⟨
  s_getI (show decode (cod 174) 62 = .ok (.getfield 259, 3) by decide +kernel) wd_778 (Or.inl rfl) (Or.inl rfl), List.forall_mem_cons.mpr ⟨
  s_ifle (show decode (cod 174) 65 = .ok (.ifCond .le 994, 3) by decide +kernel) (by decide), List.forall_mem_cons.mpr ⟨
  s_aload_n (k := 0) (show decode (cod 174) 68 = .ok (.aload_n 0, 1) by decide +kernel), fun _ h => by cases h⟩⟩⟩⟩⟩⟩⟩⟩⟩⟩⟩⟩⟩⟩⟩⟩⟩⟩⟩⟩⟩⟩⟩⟩⟩⟩⟩⟩⟩⟩⟩⟩⟩⟩⟩⟩⟩⟩⟩⟩
set_option maxRecDepth 100000 in
set_option maxHeartbeats 4000000 in
theorem si174_1 (X : CX) (l : Launch) : ∀ q ∈ ([(69, iRI 72 (gtI 78)), (72, iP 74 (fK (.inl 24))), (74, iP 76 (fIld 5)), (76, iP 77 (f2I (fun x y => x * y))), (77, iP 78 (fAld 0)), (78, iRR 81 (gtR 51)), (81, iP 83 (fIld 5)), (83, iRI 84 qAI), (84, iP 85 (f2I (fun x y => x + y))), (85, iB 88 221 (b2 (fun x y => decide (x ≠ y)))), (88, iP 89 (fAld 0)), (89, iP 90 fDup), (90, iRI 93 (gtI 83)), (93, iP 94 (fK (.inl 1))), (94, iP 95 (f2I (fun x y => x - y))), (95, iW 98 (ptI 83)), (98, iP 99 (fAld 0)), (99, iP 100 (fAld 0)), (100, iRR 103 (gtR 84)), (103, iP 104 (fAld 0)), (104, iRI 107 (gtI 83)), (107, iRI 108 qAI), (108, iP 109 (fK (.inl 1))), (109, iP 110 (f2I (fun x y => x + y))), (110, iW 113 (ptI 78)), (113, iP 114 (fAld 0)), (114, iRR 117 (gtR 84)), (117, iP 118 (fAld 0)), (118, iRI 121 (gtI 83)), (121, iRI 122 qAI), (122, iP 124 (fK (.inl 24))), (124, iRI 125 (q2I (fun x y => x / y))), (125, iP 127 (fIst 5)), (127, iP 128 (fAld 0)), (128, iP 129 (fAld 0)), (129, iRR 132 (gtR 89)), (132, iP 134 (fK (.inl 7))), (134, iP 135 (fAld 0)), (135, iRI 138 (gtI 83)), (138, iP 139 (f2I (fun x y => x * y)))] : List (Nat × AS)), SI X l 174 q.1 q.2 := List.forall_mem_cons.mpr ⟨
  s_getI (show decode (cod 174) 69 = .ok (.getfield 256, 3) by decide +kernel) wd_774 (Or.inl rfl) (Or.inl rfl), List.forall_mem_cons.mpr ⟨
  s_bipush (show decode (cod 174) 72 = .ok (.bipush 24, 2) by decide +kernel) rfl, List.forall_mem_cons.mpr ⟨
  s_iload (k := 5) (show decode (cod 174) 74 = .ok (.iload 5, 2) by decide +kernel), List.forall_mem_cons.mpr ⟨
  s_imul (show decode (cod 174) 76 = .ok (.imul, 1) by decide +kernel), List.forall_mem_cons.mpr ⟨
  s_aload_n (k := 0) (show decode (cod 174) 77 = .ok (.aload_n 0, 1) by decide +kernel), List.forall_mem_cons.mpr ⟨
  s_getR (show decode (cod 174) 78 = .ok (.getfield 7, 3) by decide +kernel) wd_607 (Or.inl rfl) rfl, List.forall_mem_cons.mpr ⟨
  s_iload (k := 5) (show decode (cod 174) 81 = .ok (.iload 5, 2) by decide +kernel), List.forall_mem_cons.mpr ⟨
  s_iaload (show decode (cod 174) 83 = .ok (.iaload, 1) by decide +kernel), List.forall_mem_cons.mpr ⟨
  s_iadd (show decode (cod 174) 84 = .ok (.iadd, 1) by decide +kernel), List.forall_mem_cons.mpr ⟨
  s_icmpne (show decode (cod 174) 85 = .ok (.if_icmp .ne 136, 3) by decide +kernel) (by decide), List.forall_mem_cons.mpr ⟨
  s_aload_n (k := 0) (show decode (cod 174) 88 = .ok (.aload_n 0, 1) by decide +kernel), List.forall_mem_cons.mpr ⟨
  s_dup (show decode (cod 174) 89 = .ok (.dup, 1) by decide +kernel), List.forall_mem_cons.mpr ⟨
  s_getI (show decode (cod 174) 90 = .ok (.getfield 259, 3) by decide +kernel) wd_778 (Or.inl rfl) (Or.inl rfl), List.forall_mem_cons.mpr ⟨
  s_iconst (show decode (cod 174) 93 = .ok (.iconst 1, 1) by decide +kernel) rfl, List.forall_mem_cons.mpr ⟨
  s_isub (show decode (cod 174) 94 = .ok (.isub, 1) by decide +kernel), List.forall_mem_cons.mpr ⟨
  s_putI (show decode (cod 174) 95 = .ok (.putfield 259, 3) by decide +kernel) wd_778 (Or.inl rfl) (Or.inl rfl) rfl, List.forall_mem_cons.mpr ⟨
  s_aload_n (k := 0) (show decode (cod 174) 98 = .ok (.aload_n 0, 1) by decide +kernel), List.forall_mem_cons.mpr ⟨
  s_aload_n (k := 0) (show decode (cod 174) 99 = .ok (.aload_n 0, 1) by decide +kernel), List.forall_mem_cons.mpr ⟨
  s_getR (show decode (cod 174) 100 = .ok (.getfield 79, 3) by decide +kernel) wd_630 (Or.inl rfl) rfl, List.forall_mem_cons.mpr ⟨
  s_aload_n (k := 0) (show decode (cod 174) 103 = .ok (.aload_n 0, 1) by decide +kernel), List.forall_mem_cons.mpr ⟨
  s_getI (show decode (cod 174) 104 = .ok (.getfield 259, 3) by decide +kernel) wd_778 (Or.inl rfl) (Or.inl rfl), List.forall_mem_cons.mpr ⟨
  s_iaload (show decode (cod 174) 107 = .ok (.iaload, 1) by decide +kernel), List.forall_mem_cons.mpr ⟨
  s_iconst (show decode (cod 174) 108 = .ok (.iconst 1, 1) by decide +kernel) rfl, List.forall_mem_cons.mpr ⟨
  s_iadd (show decode (cod 174) 109 = .ok (.iadd, 1) by decide +kernel), List.forall_mem_cons.mpr ⟨
  s_putI (show decode (cod 174) 110 = .ok (.putfield 256, 3) by decide +kernel) wd_774 (Or.inl rfl) (Or.inl rfl) rfl, List.forall_mem_cons.mpr ⟨
  s_aload_n (k := 0) (show decode (cod 174) 113 = .ok (.aload_n 0, 1) by decide +kernel), List.forall_mem_cons.mpr ⟨
  s_getR (show decode (cod 174) 114 = .ok (.getfield 79, 3) by decide +kernel) wd_630 (Or.inl rfl) rfl, List.forall_mem_cons.mpr ⟨
  s_aload_n (k := 0) (show decode (cod 174) 117 = .ok (.aload_n 0, 1) by decide +kernel), List.forall_mem_cons.mpr ⟨
  s_getI (show decode (cod 174) 118 = .ok (.getfield 259, 3) by decide +kernel) wd_778 (Or.inl rfl) (Or.inl rfl), List.forall_mem_cons.mpr ⟨
  s_iaload (show decode (cod 174) 121 = .ok (.iaload, 1) by decide +kernel), List.forall_mem_cons.mpr ⟨
  s_bipush (show decode (cod 174) 122 = .ok (.bipush 24, 2) by decide +kernel) rfl, List.forall_mem_cons.mpr ⟨
  s_idiv (show decode (cod 174) 124 = .ok (.idiv, 1) by decide +kernel), List.forall_mem_cons.mpr ⟨
  s_istore (k := 5) (show decode (cod 174) 125 = .ok (.istore 5, 2) by decide +kernel), List.forall_mem_cons.mpr ⟨
  s_aload_n (k := 0) (show decode (cod 174) 127 = .ok (.aload_n 0, 1) by decide +kernel), List.forall_mem_cons.mpr ⟨
  s_aload_n (k := 0) (show decode (cod 174) 128 = .ok (.aload_n 0, 1) by decide +kernel), List.forall_mem_cons.mpr ⟨
  s_getR (show decode (cod 174) 129 = .ok (.getfield 94, 3) by decide +kernel) wd_635 (Or.inl rfl) rfl, List.forall_mem_cons.mpr ⟨
  s_bipush (show decode (cod 174) 132 = .ok (.bipush 7, 2) by decide +kernel) rfl, List.forall_mem_cons.mpr ⟨
  s_aload_n (k := 0) (show decode (cod 174) 134 = .ok (.aload_n 0, 1) by decide +kernel), List.forall_mem_cons.mpr ⟨
  s_getI (show decode (cod 174) 135 = .ok (.getfield 259, 3) by decide +kernel) wd_778 (Or.inl rfl) (Or.inl rfl), List.forall_mem_cons.mpr ⟨
  s_imul (show decode (cod 174) 138 = .ok (.imul, 1) by decide +kernel), fun _ h => by cases h⟩⟩⟩⟩⟩⟩⟩⟩⟩⟩⟩⟩⟩⟩⟩⟩⟩⟩⟩⟩⟩⟩⟩⟩⟩⟩⟩⟩⟩⟩⟩⟩⟩⟩⟩⟩⟩⟩⟩⟩
set_option maxRecDepth 100000 in
set_option maxHeartbeats 4000000 in
theorem si174_2 (X : CX) (l : Launch) : ∀ q ∈ ([(139, iRI 140 qAI), (140, iW 143 (ptI 79)), (143, iP 144 (fAld 0)), (144, iP 145 (fAld 0)), (145, iRR 148 (gtR 89)), (148, iP 150 (fK (.inl 7))), (150, iP 151 (fAld 0)), (151, iRI 154 (gtI 83)), (154, iP 155 (f2I (fun x y => x * y))), (155, iP 156 (fK (.inl 1))), (156, iP 157 (f2I (fun x y => x + y))), (157, iRI 158 qAI), (158, iW 161 (ptI 80)), (161, iP 162 (fAld 0)), (162, iP 163 (fAld 0)), (163, iRR 166 (gtR 89)), (166, iP 168 (fK (.inl 7))), (168, iP 169 (fAld 0)), (169, iRI 172 (gtI 83)), (172, iP 173 (f2I (fun x y => x * y))), (173, iP 174 (fK (.inl 2))), (174, iP 175 (f2I (fun x y => x + y))), (175, iRI 176 qAI), (176, iW 179 (ptI 81)), (179, iP 180 (fK (.inl 0))), (180, iP 182 (fIst 6)), (182, iP 184 (fIld 6)), (184, iP 185 (fK (.inl 3))), (185, iB 188 218 (b2 (fun x y => decide (y ≤ x)))), (188, iP 189 (fAld 0)), (189, iRR 192 (gtR 82)), (192, iP 194 (fIld 6)), (194, iP 195 (fAld 0)), (195, iRR 198 (gtR 89)), (198, iP 200 (fK (.inl 7))), (200, iP 201 (fAld 0)), (201, iRI 204 (gtI 83)), (204, iP 205 (f2I (fun x y => x * y))), (205, iP 206 (fK (.inl 3))), (206, iP 207 (f2I (fun x y => x + y)))] : List (Nat × AS)), SI X l 174 q.1 q.2 := List.forall_mem_cons.mpr ⟨
  s_iaload (show decode (cod 174) 139 = .ok (.iaload, 1) by decide +kernel), List.forall_mem_cons.mpr ⟨
  s_putI (show decode (cod 174) 140 = .ok (.putfield 240, 3) by decide +kernel) wd_775 (Or.inl rfl) (Or.inl rfl) rfl, List.forall_mem_cons.mpr ⟨
  s_aload_n (k := 0) (show decode (cod 174) 143 = .ok (.aload_n 0, 1) by decide +kernel), List.forall_mem_cons.mpr ⟨
  s_aload_n (k := 0) (show decode (cod 174) 144 = .ok (.aload_n 0, 1) by decide +kernel), List.forall_mem_cons.mpr ⟨
  s_getR (show decode (cod 174) 145 = .ok (.getfield 94, 3) by decide +kernel) wd_635 (Or.inl rfl) rfl, List.forall_mem_cons.mpr ⟨
  s_bipush (show decode (cod 174) 148 = .ok (.bipush 7, 2) by decide +kernel) rfl, List.forall_mem_cons.mpr ⟨
  s_aload_n (k := 0) (show decode (cod 174) 150 = .ok (.aload_n 0, 1) by decide +kernel), List.forall_mem_cons.mpr ⟨
  s_getI (show decode (cod 174) 151 = .ok (.getfield 259, 3) by decide +kernel) wd_778 (Or.inl rfl) (Or.inl rfl), List.forall_mem_cons.mpr ⟨
  s_imul (show decode (cod 174) 154 = .ok (.imul, 1) by decide +kernel), List.forall_mem_cons.mpr ⟨
  s_iconst (show decode (cod 174) 155 = .ok (.iconst 1, 1) by decide +kernel) rfl, List.forall_mem_cons.mpr ⟨
  s_iadd (show decode (cod 174) 156 = .ok (.iadd, 1) by decide +kernel), List.forall_mem_cons.mpr ⟨
  s_iaload (show decode (cod 174) 157 = .ok (.iaload, 1) by decide +kernel), List.forall_mem_cons.mpr ⟨
  s_putI (show decode (cod 174) 158 = .ok (.putfield 243, 3) by decide +kernel) wd_776 (Or.inl rfl) (Or.inl rfl) rfl, List.forall_mem_cons.mpr ⟨
  s_aload_n (k := 0) (show decode (cod 174) 161 = .ok (.aload_n 0, 1) by decide +kernel), List.forall_mem_cons.mpr ⟨
  s_aload_n (k := 0) (show decode (cod 174) 162 = .ok (.aload_n 0, 1) by decide +kernel), List.forall_mem_cons.mpr ⟨
  s_getR (show decode (cod 174) 163 = .ok (.getfield 94, 3) by decide +kernel) wd_635 (Or.inl rfl) rfl, List.forall_mem_cons.mpr ⟨
  s_bipush (show decode (cod 174) 166 = .ok (.bipush 7, 2) by decide +kernel) rfl, List.forall_mem_cons.mpr ⟨
  s_aload_n (k := 0) (show decode (cod 174) 168 = .ok (.aload_n 0, 1) by decide +kernel), List.forall_mem_cons.mpr ⟨
  s_getI (show decode (cod 174) 169 = .ok (.getfield 259, 3) by decide +kernel) wd_778 (Or.inl rfl) (Or.inl rfl), List.forall_mem_cons.mpr ⟨
  s_imul (show decode (cod 174) 172 = .ok (.imul, 1) by decide +kernel), List.forall_mem_cons.mpr ⟨
  s_iconst (show decode (cod 174) 173 = .ok (.iconst 2, 1) by decide +kernel) rfl, List.forall_mem_cons.mpr ⟨
  s_iadd (show decode (cod 174) 174 = .ok (.iadd, 1) by decide +kernel), List.forall_mem_cons.mpr ⟨
  s_iaload (show decode (cod 174) 175 = .ok (.iaload, 1) by decide +kernel), List.forall_mem_cons.mpr ⟨
  s_putI (show decode (cod 174) 176 = .ok (.putfield 246, 3) by decide +kernel) wd_777 (Or.inl rfl) (Or.inl rfl) rfl, List.forall_mem_cons.mpr ⟨
  s_iconst (show decode (cod 174) 179 = .ok (.iconst 0, 1) by decide +kernel) rfl, List.forall_mem_cons.mpr ⟨
  s_istore (k := 6) (show decode (cod 174) 180 = .ok (.istore 6, 2) by decide +kernel), List.forall_mem_cons.mpr ⟨
  s_iload (k := 6) (show decode (cod 174) 182 = .ok (.iload 6, 2) by decide +kernel), List.forall_mem_cons.mpr ⟨
  s_iconst (show decode (cod 174) 184 = .ok (.iconst 3, 1) by decide +kernel) rfl, List.forall_mem_cons.mpr ⟨
  s_icmpge (show decode (cod 174) 185 = .ok (.if_icmp .ge 33, 3) by decide +kernel) (by decide), List.forall_mem_cons.mpr ⟨
  s_aload_n (k := 0) (show decode (cod 174) 188 = .ok (.aload_n 0, 1) by decide +kernel), List.forall_mem_cons.mpr ⟨
  s_getR (show decode (cod 174) 189 = .ok (.getfield 76, 3) by decide +kernel) wd_629 (Or.inl rfl) rfl, List.forall_mem_cons.mpr ⟨
  s_iload (k := 6) (show decode (cod 174) 192 = .ok (.iload 6, 2) by decide +kernel), List.forall_mem_cons.mpr ⟨
  s_aload_n (k := 0) (show decode (cod 174) 194 = .ok (.aload_n 0, 1) by decide +kernel), List.forall_mem_cons.mpr ⟨
  s_getR (show decode (cod 174) 195 = .ok (.getfield 94, 3) by decide +kernel) wd_635 (Or.inl rfl) rfl, List.forall_mem_cons.mpr ⟨
  s_bipush (show decode (cod 174) 198 = .ok (.bipush 7, 2) by decide +kernel) rfl, List.forall_mem_cons.mpr ⟨
  s_aload_n (k := 0) (show decode (cod 174) 200 = .ok (.aload_n 0, 1) by decide +kernel), List.forall_mem_cons.mpr ⟨
  s_getI (show decode (cod 174) 201 = .ok (.getfield 259, 3) by decide +kernel) wd_778 (Or.inl rfl) (Or.inl rfl), List.forall_mem_cons.mpr ⟨
  s_imul (show decode (cod 174) 204 = .ok (.imul, 1) by decide +kernel), List.forall_mem_cons.mpr ⟨
  s_iconst (show decode (cod 174) 205 = .ok (.iconst 3, 1) by decide +kernel) rfl, List.forall_mem_cons.mpr ⟨
  s_iadd (show decode (cod 174) 206 = .ok (.iadd, 1) by decide +kernel), fun _ h => by cases h⟩⟩⟩⟩⟩⟩⟩⟩⟩⟩⟩⟩⟩⟩⟩⟩⟩⟩⟩⟩⟩⟩⟩⟩⟩⟩⟩⟩⟩⟩⟩⟩⟩⟩⟩⟩⟩⟩⟩⟩
set_option maxRecDepth 100000 in
set_option maxHeartbeats 4000000 in
theorem si174_3 (X : CX) (l : Launch) : ∀ q ∈ ([(207, iP 209 (fIld 6)), (209, iP 210 (f2I (fun x y => x + y))), (210, iRI 211 qAI), (211, iW 212 wAI), (212, iP 215 (fInc 6 1)), (215, iP 182 fGo), (218, iP 41 fGo), (221, iP 222 (fAld 0)), (222, iRI 225 (gtI 78)), (225, iP 227 (fIst 6)), (227, iP 228 (fAld 0)), (228, iRR 231 (gtR 52)), (231, iP 233 (fIld 6)), (233, iRI 234 qAI), (234, iSw 867 1 [280, 867, 310, 867, 573, 437, 712, 785]), (280, iP 281 (fAld 0)), (281, iP 282 fDup), (282, iRJ 285 (gtJ 77)), (285, iP 286 (fAld 0)), (286, iRR 289 (gtR 53)), (289, iP 291 (fIld 6)), (291, iRI 292 qAI), (292, iP 293 fI2l), (293, iP 294 (f2J (fun x y => x + y))), (294, iW 297 (ptJ 77)), (297, iP 298 (fAld 0)), (298, iP 299 fDup), (299, iRI 302 (gtI 78)), (302, iP 303 (fK (.inl 1))), (303, iP 304 (f2I (fun x y => x + y))), (304, iW 307 (ptI 78)), (307, iP 1056 fGo), (310, iP 311 (fAld 0)), (311, iP 313 (fIld 6)), (313, iP 314 (fK (.inl 0))), (314, iCK 317 12 175 5 3 1), (317, iP 319 (fIst 7)), (319, iP 321 (fIld 7)), (321, iB 324 341 (b1 (fun x => decide (x ≠ 0)))), (324, iP 325 (fAld 0))] : List (Nat × AS)), SI X l 174 q.1 q.2 := List.forall_mem_cons.mpr ⟨
  s_iload (k := 6) (show decode (cod 174) 207 = .ok (.iload 6, 2) by decide +kernel), List.forall_mem_cons.mpr ⟨
  s_iadd (show decode (cod 174) 209 = .ok (.iadd, 1) by decide +kernel), List.forall_mem_cons.mpr ⟨
  s_iaload (show decode (cod 174) 210 = .ok (.iaload, 1) by decide +kernel), List.forall_mem_cons.mpr ⟨
  s_iastore (show decode (cod 174) 211 = .ok (.iastore, 1) by decide +kernel), List.forall_mem_cons.mpr ⟨
  s_iinc (show decode (cod 174) 212 = .ok (.iinc 6 1, 3) by decide +kernel) rfl, List.forall_mem_cons.mpr ⟨
  s_goto (show decode (cod 174) 215 = .ok (.goto (-33), 3) by decide +kernel) (by decide), List.forall_mem_cons.mpr ⟨
  s_goto (show decode (cod 174) 218 = .ok (.goto (-177), 3) by decide +kernel) (by decide), List.forall_mem_cons.mpr ⟨
  s_aload_n (k := 0) (show decode (cod 174) 221 = .ok (.aload_n 0, 1) by decide +kernel), List.forall_mem_cons.mpr ⟨
  s_getI (show decode (cod 174) 222 = .ok (.getfield 256, 3) by decide +kernel) wd_774 (Or.inl rfl) (Or.inl rfl), List.forall_mem_cons.mpr ⟨
  s_istore (k := 6) (show decode (cod 174) 225 = .ok (.istore 6, 2) by decide +kernel), List.forall_mem_cons.mpr ⟨
  s_aload_n (k := 0) (show decode (cod 174) 227 = .ok (.aload_n 0, 1) by decide +kernel), List.forall_mem_cons.mpr ⟨
  s_getR (show decode (cod 174) 228 = .ok (.getfield 13, 3) by decide +kernel) wd_608 (Or.inl rfl) rfl, List.forall_mem_cons.mpr ⟨
  s_iload (k := 6) (show decode (cod 174) 231 = .ok (.iload 6, 2) by decide +kernel), List.forall_mem_cons.mpr ⟨
  s_iaload (show decode (cod 174) 233 = .ok (.iaload, 1) by decide +kernel), List.forall_mem_cons.mpr ⟨
  s_table (show decode (cod 174) 234 = .ok (.tableswitch 633 1 8 #[46, 633, 76, 633, 339, 203, 478, 551], 46) by decide +kernel) (by decide) (by decide) rfl (by decide) (fun j t h => match j, h with | 0, h => ⟨_, rfl, by cases h; rfl⟩ | 1, h => ⟨_, rfl, by cases h; rfl⟩ | 2, h => ⟨_, rfl, by cases h; rfl⟩ | 3, h => ⟨_, rfl, by cases h; rfl⟩ | 4, h => ⟨_, rfl, by cases h; rfl⟩ | 5, h => ⟨_, rfl, by cases h; rfl⟩ | 6, h => ⟨_, rfl, by cases h; rfl⟩ | 7, h => ⟨_, rfl, by cases h; rfl⟩ | j + 8, h => by simp at h), List.forall_mem_cons.mpr ⟨
  s_aload_n (k := 0) (show decode (cod 174) 280 = .ok (.aload_n 0, 1) by decide +kernel), List.forall_mem_cons.mpr ⟨
  s_dup (show decode (cod 174) 281 = .ok (.dup, 1) by decide +kernel), List.forall_mem_cons.mpr ⟨
  s_getJ (show decode (cod 174) 282 = .ok (.getfield 252, 3) by decide +kernel) wd_773 (Or.inl rfl) rfl, List.forall_mem_cons.mpr ⟨
  s_aload_n (k := 0) (show decode (cod 174) 285 = .ok (.aload_n 0, 1) by decide +kernel), List.forall_mem_cons.mpr ⟨
  s_getR (show decode (cod 174) 286 = .ok (.getfield 16, 3) by decide +kernel) wd_609 (Or.inl rfl) rfl, List.forall_mem_cons.mpr ⟨
  s_iload (k := 6) (show decode (cod 174) 289 = .ok (.iload 6, 2) by decide +kernel), List.forall_mem_cons.mpr ⟨
  s_iaload (show decode (cod 174) 291 = .ok (.iaload, 1) by decide +kernel), List.forall_mem_cons.mpr ⟨
  s_i2l (show decode (cod 174) 292 = .ok (.i2l, 1) by decide +kernel), List.forall_mem_cons.mpr ⟨
  s_ladd (show decode (cod 174) 293 = .ok (.ladd, 1) by decide +kernel), List.forall_mem_cons.mpr ⟨
  s_putJ (show decode (cod 174) 294 = .ok (.putfield 252, 3) by decide +kernel) wd_773 (Or.inl rfl) (Or.inl rfl) rfl, List.forall_mem_cons.mpr ⟨
  s_aload_n (k := 0) (show decode (cod 174) 297 = .ok (.aload_n 0, 1) by decide +kernel), List.forall_mem_cons.mpr ⟨
  s_dup (show decode (cod 174) 298 = .ok (.dup, 1) by decide +kernel), List.forall_mem_cons.mpr ⟨
  s_getI (show decode (cod 174) 299 = .ok (.getfield 256, 3) by decide +kernel) wd_774 (Or.inl rfl) (Or.inl rfl), List.forall_mem_cons.mpr ⟨
  s_iconst (show decode (cod 174) 302 = .ok (.iconst 1, 1) by decide +kernel) rfl, List.forall_mem_cons.mpr ⟨
  s_iadd (show decode (cod 174) 303 = .ok (.iadd, 1) by decide +kernel), List.forall_mem_cons.mpr ⟨
  s_putI (show decode (cod 174) 304 = .ok (.putfield 256, 3) by decide +kernel) wd_774 (Or.inl rfl) (Or.inl rfl) rfl, List.forall_mem_cons.mpr ⟨
  s_goto (show decode (cod 174) 307 = .ok (.goto 749, 3) by decide +kernel) (by decide), List.forall_mem_cons.mpr ⟨
  s_aload_n (k := 0) (show decode (cod 174) 310 = .ok (.aload_n 0, 1) by decide +kernel), List.forall_mem_cons.mpr ⟨
  s_iload (k := 6) (show decode (cod 174) 311 = .ok (.iload 6, 2) by decide +kernel), List.forall_mem_cons.mpr ⟨
  s_iconst (show decode (cod 174) 313 = .ok (.iconst 0, 1) by decide +kernel) rfl, List.forall_mem_cons.mpr ⟨
  s_invK rfl (rcv_virt (show decode (cod 174) 314 = .ok (.invokevirtual 262, 3) by decide +kernel) cld_174_175 ⟨11, _, _, rfl, by decide, rfl⟩ wd_780 wd_781 wd_782), List.forall_mem_cons.mpr ⟨
  s_istore (k := 7) (show decode (cod 174) 317 = .ok (.istore 7, 2) by decide +kernel), List.forall_mem_cons.mpr ⟨
  s_iload (k := 7) (show decode (cod 174) 319 = .ok (.iload 7, 2) by decide +kernel), List.forall_mem_cons.mpr ⟨
  s_ifne (show decode (cod 174) 321 = .ok (.ifCond .ne 20, 3) by decide +kernel) (by decide), List.forall_mem_cons.mpr ⟨
  s_aload_n (k := 0) (show decode (cod 174) 324 = .ok (.aload_n 0, 1) by decide +kernel), fun _ h => by cases h⟩⟩⟩⟩⟩⟩⟩⟩⟩⟩⟩⟩⟩⟩⟩⟩⟩⟩⟩⟩⟩⟩⟩⟩⟩⟩⟩⟩⟩⟩⟩⟩⟩⟩⟩⟩⟩⟩⟩⟩
set_option maxRecDepth 100000 in
set_option maxHeartbeats 4000000 in
theorem si174_4 (X : CX) (l : Launch) : ∀ q ∈ ([(325, iP 326 (fAld 0)), (326, iP 328 (fIld 6)), (328, iP 330 (fK (.inl 6))), (330, iCK 333 12 176 5 3 1), (333, iP 334 (fK (.inl 1))), (334, iP 335 (f2I (fun x y => x + y))), (335, iW 338 (ptI 78)), (338, iP 1056 fGo), (341, iP 342 (fAld 0)), (342, iCK 345 12 177 1 1 1), (345, iB 348 352 (b1 (fun x => decide (x ≠ 0)))), (348, iP 351 (fK (.inl (-1000004)))), (351, iRet rI), (352, iP 353 (fAld 0)), (353, iP 354 fDup), (354, iRJ 357 (gtJ 77)), (357, iP 358 (fK (.inr (.inl 1)))), (358, iP 359 (f2J (fun x y => x + y))), (359, iW 362 (ptJ 77)), (362, iP 363 (fAld 0)), (363, iRR 366 (gtR 84)), (366, iP 367 (fAld 0)), (367, iRI 370 (gtI 83)), (370, iP 372 (fIld 6)), (372, iW 373 wAI), (373, iP 374 (fAld 0)), (374, iRR 377 (gtR 85)), (377, iP 378 (fAld 0)), (378, iRI 381 (gtI 83)), (381, iP 382 (fK (.inl 1))), (382, iW 383 wAI), (383, iP 384 (fAld 0)), (384, iRR 387 (gtR 86)), (387, iP 388 (fAld 0)), (388, iRI 391 (gtI 83)), (391, iP 393 (fIld 7)), (393, iW 394 wAI), (394, iP 395 (fAld 0)), (395, iP 396 fDup), (396, iRI 399 (gtI 83))] : List (Nat × AS)), SI X l 174 q.1 q.2 := List.forall_mem_cons.mpr ⟨
  s_aload_n (k := 0) (show decode (cod 174) 325 = .ok (.aload_n 0, 1) by decide +kernel), List.forall_mem_cons.mpr ⟨
  s_iload (k := 6) (show decode (cod 174) 326 = .ok (.iload 6, 2) by decide +kernel), List.forall_mem_cons.mpr ⟨
  s_bipush (show decode (cod 174) 328 = .ok (.bipush 6, 2) by decide +kernel) rfl, List.forall_mem_cons.mpr ⟨
  s_invK rfl (rcv_virt (show decode (cod 174) 330 = .ok (.invokevirtual 265, 3) by decide +kernel) cld_174_176 ⟨11, _, _, rfl, by decide, rfl⟩ wd_784 wd_785 wd_786), List.forall_mem_cons.mpr ⟨
  s_iconst (show decode (cod 174) 333 = .ok (.iconst 1, 1) by decide +kernel) rfl, List.forall_mem_cons.mpr ⟨
  s_iadd (show decode (cod 174) 334 = .ok (.iadd, 1) by decide +kernel), List.forall_mem_cons.mpr ⟨
  s_putI (show decode (cod 174) 335 = .ok (.putfield 256, 3) by decide +kernel) wd_774 (Or.inl rfl) (Or.inl rfl) rfl, List.forall_mem_cons.mpr ⟨
  s_goto (show decode (cod 174) 338 = .ok (.goto 718, 3) by decide +kernel) (by decide), List.forall_mem_cons.mpr ⟨
  s_aload_n (k := 0) (show decode (cod 174) 341 = .ok (.aload_n 0, 1) by decide +kernel), List.forall_mem_cons.mpr ⟨
  s_invK rfl (rcv_virt (show decode (cod 174) 342 = .ok (.invokevirtual 268, 3) by decide +kernel) cld_174_177 ⟨11, _, _, rfl, by decide, rfl⟩ wd_788 wd_789 wd_790), List.forall_mem_cons.mpr ⟨
  s_ifne (show decode (cod 174) 345 = .ok (.ifCond .ne 7, 3) by decide +kernel) (by decide), List.forall_mem_cons.mpr ⟨
  s_ldcw (show decode (cod 174) 348 = .ok (.ldc_w 272, 3) by decide +kernel) wd_791, List.forall_mem_cons.mpr ⟨
  s_ret (show decode (cod 174) 351 = .ok (.ireturn, 1) by decide +kernel) rI_ok (fun h => by cases h), List.forall_mem_cons.mpr ⟨
  s_aload_n (k := 0) (show decode (cod 174) 352 = .ok (.aload_n 0, 1) by decide +kernel), List.forall_mem_cons.mpr ⟨
  s_dup (show decode (cod 174) 353 = .ok (.dup, 1) by decide +kernel), List.forall_mem_cons.mpr ⟨
  s_getJ (show decode (cod 174) 354 = .ok (.getfield 252, 3) by decide +kernel) wd_773 (Or.inl rfl) rfl, List.forall_mem_cons.mpr ⟨
  s_lconst (show decode (cod 174) 357 = .ok (.lconst 1, 1) by decide +kernel) rfl, List.forall_mem_cons.mpr ⟨
  s_ladd (show decode (cod 174) 358 = .ok (.ladd, 1) by decide +kernel), List.forall_mem_cons.mpr ⟨
  s_putJ (show decode (cod 174) 359 = .ok (.putfield 252, 3) by decide +kernel) wd_773 (Or.inl rfl) (Or.inl rfl) rfl, List.forall_mem_cons.mpr ⟨
  s_aload_n (k := 0) (show decode (cod 174) 362 = .ok (.aload_n 0, 1) by decide +kernel), List.forall_mem_cons.mpr ⟨
  s_getR (show decode (cod 174) 363 = .ok (.getfield 79, 3) by decide +kernel) wd_630 (Or.inl rfl) rfl, List.forall_mem_cons.mpr ⟨
  s_aload_n (k := 0) (show decode (cod 174) 366 = .ok (.aload_n 0, 1) by decide +kernel), List.forall_mem_cons.mpr ⟨
  s_getI (show decode (cod 174) 367 = .ok (.getfield 259, 3) by decide +kernel) wd_778 (Or.inl rfl) (Or.inl rfl), List.forall_mem_cons.mpr ⟨
  s_iload (k := 6) (show decode (cod 174) 370 = .ok (.iload 6, 2) by decide +kernel), List.forall_mem_cons.mpr ⟨
  s_iastore (show decode (cod 174) 372 = .ok (.iastore, 1) by decide +kernel), List.forall_mem_cons.mpr ⟨
  s_aload_n (k := 0) (show decode (cod 174) 373 = .ok (.aload_n 0, 1) by decide +kernel), List.forall_mem_cons.mpr ⟨
  s_getR (show decode (cod 174) 374 = .ok (.getfield 82, 3) by decide +kernel) wd_631 (Or.inl rfl) rfl, List.forall_mem_cons.mpr ⟨
  s_aload_n (k := 0) (show decode (cod 174) 377 = .ok (.aload_n 0, 1) by decide +kernel), List.forall_mem_cons.mpr ⟨
  s_getI (show decode (cod 174) 378 = .ok (.getfield 259, 3) by decide +kernel) wd_778 (Or.inl rfl) (Or.inl rfl), List.forall_mem_cons.mpr ⟨
  s_iconst (show decode (cod 174) 381 = .ok (.iconst 1, 1) by decide +kernel) rfl, List.forall_mem_cons.mpr ⟨
  s_iastore (show decode (cod 174) 382 = .ok (.iastore, 1) by decide +kernel), List.forall_mem_cons.mpr ⟨
  s_aload_n (k := 0) (show decode (cod 174) 383 = .ok (.aload_n 0, 1) by decide +kernel), List.forall_mem_cons.mpr ⟨
  s_getR (show decode (cod 174) 384 = .ok (.getfield 85, 3) by decide +kernel) wd_632 (Or.inl rfl) rfl, List.forall_mem_cons.mpr ⟨
  s_aload_n (k := 0) (show decode (cod 174) 387 = .ok (.aload_n 0, 1) by decide +kernel), List.forall_mem_cons.mpr ⟨
  s_getI (show decode (cod 174) 388 = .ok (.getfield 259, 3) by decide +kernel) wd_778 (Or.inl rfl) (Or.inl rfl), List.forall_mem_cons.mpr ⟨
  s_iload (k := 7) (show decode (cod 174) 391 = .ok (.iload 7, 2) by decide +kernel), List.forall_mem_cons.mpr ⟨
  s_iastore (show decode (cod 174) 393 = .ok (.iastore, 1) by decide +kernel), List.forall_mem_cons.mpr ⟨
  s_aload_n (k := 0) (show decode (cod 174) 394 = .ok (.aload_n 0, 1) by decide +kernel), List.forall_mem_cons.mpr ⟨
  s_dup (show decode (cod 174) 395 = .ok (.dup, 1) by decide +kernel), List.forall_mem_cons.mpr ⟨
  s_getI (show decode (cod 174) 396 = .ok (.getfield 259, 3) by decide +kernel) wd_778 (Or.inl rfl) (Or.inl rfl), fun _ h => by cases h⟩⟩⟩⟩⟩⟩⟩⟩⟩⟩⟩⟩⟩⟩⟩⟩⟩⟩⟩⟩⟩⟩⟩⟩⟩⟩⟩⟩⟩⟩⟩⟩⟩⟩⟩⟩⟩⟩⟩⟩
set_option maxRecDepth 100000 in
set_option maxHeartbeats 4000000 in
theorem si174_5 (X : CX) (l : Launch) : ∀ q ∈ ([(399, iP 400 (fK (.inl 1))), (400, iP 401 (f2I (fun x y => x + y))), (401, iW 404 (ptI 83)), (404, iP 405 (fAld 0)), (405, iRR 408 (gtR 82)), (408, iP 409 (fAld 0)), (409, iRI 412 (gtI 81)), (412, iP 413 (fK (.inl 1))), (413, iW 414 wAI), (414, iP 415 (fAld 0)), (415, iP 416 fDup), (416, iRI 419 (gtI 81)), (419, iP 420 (fK (.inl 1))), (420, iP 421 (f2I (fun x y => x + y))), (421, iW 424 (ptI 81)), (424, iP 425 (fAld 0)), (425, iP 426 fDup), (426, iRI 429 (gtI 78)), (429, iP 430 (fK (.inl 1))), (430, iP 431 (f2I (fun x y => x + y))), (431, iW 434 (ptI 78)), (434, iP 1056 fGo), (437, iP 438 (fAld 0)), (438, iRR 441 (gtR 85)), (441, iP 442 (fAld 0)), (442, iRI 445 (gtI 83)), (445, iP 446 (fK (.inl 1))), (446, iP 447 (f2I (fun x y => x - y))), (447, iRI 448 qAI), (448, iP 449 (fAld 0)), (449, iRR 452 (gtR 86)), (452, iP 453 (fAld 0)), (453, iRI 456 (gtI 83)), (456, iP 457 (fK (.inl 1))), (457, iP 458 (f2I (fun x y => x - y))), (458, iRI 459 qAI), (459, iB 462 540 (b2 (fun x y => decide (y ≤ x)))), (462, iP 463 (fAld 0)), (463, iCK 466 12 177 1 1 1), (466, iB 469 473 (b1 (fun x => decide (x ≠ 0))))] : List (Nat × AS)), SI X l 174 q.1 q.2 := List.forall_mem_cons.mpr ⟨
  s_iconst (show decode (cod 174) 399 = .ok (.iconst 1, 1) by decide +kernel) rfl, List.forall_mem_cons.mpr ⟨
  s_iadd (show decode (cod 174) 400 = .ok (.iadd, 1) by decide +kernel), List.forall_mem_cons.mpr ⟨
  s_putI (show decode (cod 174) 401 = .ok (.putfield 259, 3) by decide +kernel) wd_778 (Or.inl rfl) (Or.inl rfl) rfl, List.forall_mem_cons.mpr ⟨
  s_aload_n (k := 0) (show decode (cod 174) 404 = .ok (.aload_n 0, 1) by decide +kernel), List.forall_mem_cons.mpr ⟨
  s_getR (show decode (cod 174) 405 = .ok (.getfield 76, 3) by decide +kernel) wd_629 (Or.inl rfl) rfl, List.forall_mem_cons.mpr ⟨
  s_aload_n (k := 0) (show decode (cod 174) 408 = .ok (.aload_n 0, 1) by decide +kernel), List.forall_mem_cons.mpr ⟨
  s_getI (show decode (cod 174) 409 = .ok (.getfield 246, 3) by decide +kernel) wd_777 (Or.inl rfl) (Or.inl rfl), List.forall_mem_cons.mpr ⟨
  s_iconst (show decode (cod 174) 412 = .ok (.iconst 1, 1) by decide +kernel) rfl, List.forall_mem_cons.mpr ⟨
  s_iastore (show decode (cod 174) 413 = .ok (.iastore, 1) by decide +kernel), List.forall_mem_cons.mpr ⟨
  s_aload_n (k := 0) (show decode (cod 174) 414 = .ok (.aload_n 0, 1) by decide +kernel), List.forall_mem_cons.mpr ⟨
  s_dup (show decode (cod 174) 415 = .ok (.dup, 1) by decide +kernel), List.forall_mem_cons.mpr ⟨
  s_getI (show decode (cod 174) 416 = .ok (.getfield 246, 3) by decide +kernel) wd_777 (Or.inl rfl) (Or.inl rfl), List.forall_mem_cons.mpr ⟨
  s_iconst (show decode (cod 174) 419 = .ok (.iconst 1, 1) by decide +kernel) rfl, List.forall_mem_cons.mpr ⟨
  s_iadd (show decode (cod 174) 420 = .ok (.iadd, 1) by decide +kernel), List.forall_mem_cons.mpr ⟨
  s_putI (show decode (cod 174) 421 = .ok (.putfield 246, 3) by decide +kernel) wd_777 (Or.inl rfl) (Or.inl rfl) rfl, List.forall_mem_cons.mpr ⟨
  s_aload_n (k := 0) (show decode (cod 174) 424 = .ok (.aload_n 0, 1) by decide +kernel), List.forall_mem_cons.mpr ⟨
  s_dup (show decode (cod 174) 425 = .ok (.dup, 1) by decide +kernel), List.forall_mem_cons.mpr ⟨
  s_getI (show decode (cod 174) 426 = .ok (.getfield 256, 3) by decide +kernel) wd_774 (Or.inl rfl) (Or.inl rfl), List.forall_mem_cons.mpr ⟨
  s_iconst (show decode (cod 174) 429 = .ok (.iconst 1, 1) by decide +kernel) rfl, List.forall_mem_cons.mpr ⟨
  s_iadd (show decode (cod 174) 430 = .ok (.iadd, 1) by decide +kernel), List.forall_mem_cons.mpr ⟨
  s_putI (show decode (cod 174) 431 = .ok (.putfield 256, 3) by decide +kernel) wd_774 (Or.inl rfl) (Or.inl rfl) rfl, List.forall_mem_cons.mpr ⟨
  s_goto (show decode (cod 174) 434 = .ok (.goto 622, 3) by decide +kernel) (by decide), List.forall_mem_cons.mpr ⟨
  s_aload_n (k := 0) (show decode (cod 174) 437 = .ok (.aload_n 0, 1) by decide +kernel), List.forall_mem_cons.mpr ⟨
  s_getR (show decode (cod 174) 438 = .ok (.getfield 82, 3) by decide +kernel) wd_631 (Or.inl rfl) rfl, List.forall_mem_cons.mpr ⟨
  s_aload_n (k := 0) (show decode (cod 174) 441 = .ok (.aload_n 0, 1) by decide +kernel), List.forall_mem_cons.mpr ⟨
  s_getI (show decode (cod 174) 442 = .ok (.getfield 259, 3) by decide +kernel) wd_778 (Or.inl rfl) (Or.inl rfl), List.forall_mem_cons.mpr ⟨
  s_iconst (show decode (cod 174) 445 = .ok (.iconst 1, 1) by decide +kernel) rfl, List.forall_mem_cons.mpr ⟨
  s_isub (show decode (cod 174) 446 = .ok (.isub, 1) by decide +kernel), List.forall_mem_cons.mpr ⟨
  s_iaload (show decode (cod 174) 447 = .ok (.iaload, 1) by decide +kernel), List.forall_mem_cons.mpr ⟨
  s_aload_n (k := 0) (show decode (cod 174) 448 = .ok (.aload_n 0, 1) by decide +kernel), List.forall_mem_cons.mpr ⟨
  s_getR (show decode (cod 174) 449 = .ok (.getfield 85, 3) by decide +kernel) wd_632 (Or.inl rfl) rfl, List.forall_mem_cons.mpr ⟨
  s_aload_n (k := 0) (show decode (cod 174) 452 = .ok (.aload_n 0, 1) by decide +kernel), List.forall_mem_cons.mpr ⟨
  s_getI (show decode (cod 174) 453 = .ok (.getfield 259, 3) by decide +kernel) wd_778 (Or.inl rfl) (Or.inl rfl), List.forall_mem_cons.mpr ⟨
  s_iconst (show decode (cod 174) 456 = .ok (.iconst 1, 1) by decide +kernel) rfl, List.forall_mem_cons.mpr ⟨
  s_isub (show decode (cod 174) 457 = .ok (.isub, 1) by decide +kernel), List.forall_mem_cons.mpr ⟨
  s_iaload (show decode (cod 174) 458 = .ok (.iaload, 1) by decide +kernel), List.forall_mem_cons.mpr ⟨
  s_icmpge (show decode (cod 174) 459 = .ok (.if_icmp .ge 81, 3) by decide +kernel) (by decide), List.forall_mem_cons.mpr ⟨
  s_aload_n (k := 0) (show decode (cod 174) 462 = .ok (.aload_n 0, 1) by decide +kernel), List.forall_mem_cons.mpr ⟨
  s_invK rfl (rcv_virt (show decode (cod 174) 463 = .ok (.invokevirtual 268, 3) by decide +kernel) cld_174_177 ⟨11, _, _, rfl, by decide, rfl⟩ wd_788 wd_789 wd_790), List.forall_mem_cons.mpr ⟨
  s_ifne (show decode (cod 174) 466 = .ok (.ifCond .ne 7, 3) by decide +kernel) (by decide), fun _ h => by cases h⟩⟩⟩⟩⟩⟩⟩⟩⟩⟩⟩⟩⟩⟩⟩⟩⟩⟩⟩⟩⟩⟩⟩⟩⟩⟩⟩⟩⟩⟩⟩⟩⟩⟩⟩⟩⟩⟩⟩⟩
set_option maxRecDepth 100000 in
set_option maxHeartbeats 4000000 in
theorem si174_6 (X : CX) (l : Launch) : ∀ q ∈ ([(469, iP 472 (fK (.inl (-1000004)))), (472, iRet rI), (473, iP 474 (fAld 0)), (474, iP 475 fDup), (475, iRJ 478 (gtJ 77)), (478, iP 479 (fK (.inr (.inl 1)))), (479, iP 480 (f2J (fun x y => x + y))), (480, iW 483 (ptJ 77)), (483, iP 484 (fAld 0)), (484, iRR 487 (gtR 85)), (487, iP 488 (fAld 0)), (488, iRI 491 (gtI 83)), (491, iP 492 (fK (.inl 1))), (492, iP 493 (f2I (fun x y => x - y))), (493, iP 494 fDup2), (494, iRI 495 qAI), (495, iP 496 (fK (.inl 1))), (496, iP 497 (f2I (fun x y => x + y))), (497, iW 498 wAI), (498, iP 499 (fAld 0)), (499, iRR 502 (gtR 82)), (502, iP 503 (fAld 0)), (503, iRI 506 (gtI 81)), (506, iP 507 (fK (.inl 1))), (507, iP 508 (f2I (fun x y => x - y))), (508, iP 509 (fAld 0)), (509, iRR 512 (gtR 85)), (512, iP 513 (fAld 0)), (513, iRI 516 (gtI 83)), (516, iP 517 (fK (.inl 1))), (517, iP 518 (f2I (fun x y => x - y))), (518, iRI 519 qAI), (519, iW 520 wAI), (520, iP 521 (fAld 0)), (521, iP 522 (fAld 0)), (522, iRR 525 (gtR 84)), (525, iP 526 (fAld 0)), (526, iRI 529 (gtI 83)), (529, iP 530 (fK (.inl 1))), (530, iP 531 (f2I (fun x y => x - y)))] : List (Nat × AS)), SI X l 174 q.1 q.2 := List.forall_mem_cons.mpr ⟨
  s_ldcw (show decode (cod 174) 469 = .ok (.ldc_w 272, 3) by decide +kernel) wd_791, List.forall_mem_cons.mpr ⟨
  s_ret (show decode (cod 174) 472 = .ok (.ireturn, 1) by decide +kernel) rI_ok (fun h => by cases h), List.forall_mem_cons.mpr ⟨
  s_aload_n (k := 0) (show decode (cod 174) 473 = .ok (.aload_n 0, 1) by decide +kernel), List.forall_mem_cons.mpr ⟨
  s_dup (show decode (cod 174) 474 = .ok (.dup, 1) by decide +kernel), List.forall_mem_cons.mpr ⟨
  s_getJ (show decode (cod 174) 475 = .ok (.getfield 252, 3) by decide +kernel) wd_773 (Or.inl rfl) rfl, List.forall_mem_cons.mpr ⟨
  s_lconst (show decode (cod 174) 478 = .ok (.lconst 1, 1) by decide +kernel) rfl, List.forall_mem_cons.mpr ⟨
  s_ladd (show decode (cod 174) 479 = .ok (.ladd, 1) by decide +kernel), List.forall_mem_cons.mpr ⟨
  s_putJ (show decode (cod 174) 480 = .ok (.putfield 252, 3) by decide +kernel) wd_773 (Or.inl rfl) (Or.inl rfl) rfl, List.forall_mem_cons.mpr ⟨
  s_aload_n (k := 0) (show decode (cod 174) 483 = .ok (.aload_n 0, 1) by decide +kernel), List.forall_mem_cons.mpr ⟨
  s_getR (show decode (cod 174) 484 = .ok (.getfield 82, 3) by decide +kernel) wd_631 (Or.inl rfl) rfl, List.forall_mem_cons.mpr ⟨
  s_aload_n (k := 0) (show decode (cod 174) 487 = .ok (.aload_n 0, 1) by decide +kernel), List.forall_mem_cons.mpr ⟨
  s_getI (show decode (cod 174) 488 = .ok (.getfield 259, 3) by decide +kernel) wd_778 (Or.inl rfl) (Or.inl rfl), List.forall_mem_cons.mpr ⟨
  s_iconst (show decode (cod 174) 491 = .ok (.iconst 1, 1) by decide +kernel) rfl, List.forall_mem_cons.mpr ⟨
  s_isub (show decode (cod 174) 492 = .ok (.isub, 1) by decide +kernel), List.forall_mem_cons.mpr ⟨
  s_dup2 (show decode (cod 174) 493 = .ok (.dup2, 1) by decide +kernel), List.forall_mem_cons.mpr ⟨
  s_iaload (show decode (cod 174) 494 = .ok (.iaload, 1) by decide +kernel), List.forall_mem_cons.mpr ⟨
  s_iconst (show decode (cod 174) 495 = .ok (.iconst 1, 1) by decide +kernel) rfl, List.forall_mem_cons.mpr ⟨
  s_iadd (show decode (cod 174) 496 = .ok (.iadd, 1) by decide +kernel), List.forall_mem_cons.mpr ⟨
  s_iastore (show decode (cod 174) 497 = .ok (.iastore, 1) by decide +kernel), List.forall_mem_cons.mpr ⟨
  s_aload_n (k := 0) (show decode (cod 174) 498 = .ok (.aload_n 0, 1) by decide +kernel), List.forall_mem_cons.mpr ⟨
  s_getR (show decode (cod 174) 499 = .ok (.getfield 76, 3) by decide +kernel) wd_629 (Or.inl rfl) rfl, List.forall_mem_cons.mpr ⟨
  s_aload_n (k := 0) (show decode (cod 174) 502 = .ok (.aload_n 0, 1) by decide +kernel), List.forall_mem_cons.mpr ⟨
  s_getI (show decode (cod 174) 503 = .ok (.getfield 246, 3) by decide +kernel) wd_777 (Or.inl rfl) (Or.inl rfl), List.forall_mem_cons.mpr ⟨
  s_iconst (show decode (cod 174) 506 = .ok (.iconst 1, 1) by decide +kernel) rfl, List.forall_mem_cons.mpr ⟨
  s_isub (show decode (cod 174) 507 = .ok (.isub, 1) by decide +kernel), List.forall_mem_cons.mpr ⟨
  s_aload_n (k := 0) (show decode (cod 174) 508 = .ok (.aload_n 0, 1) by decide +kernel), List.forall_mem_cons.mpr ⟨
  s_getR (show decode (cod 174) 509 = .ok (.getfield 82, 3) by decide +kernel) wd_631 (Or.inl rfl) rfl, List.forall_mem_cons.mpr ⟨
  s_aload_n (k := 0) (show decode (cod 174) 512 = .ok (.aload_n 0, 1) by decide +kernel), List.forall_mem_cons.mpr ⟨
  s_getI (show decode (cod 174) 513 = .ok (.getfield 259, 3) by decide +kernel) wd_778 (Or.inl rfl) (Or.inl rfl), List.forall_mem_cons.mpr ⟨
  s_iconst (show decode (cod 174) 516 = .ok (.iconst 1, 1) by decide +kernel) rfl, List.forall_mem_cons.mpr ⟨
  s_isub (show decode (cod 174) 517 = .ok (.isub, 1) by decide +kernel), List.forall_mem_cons.mpr ⟨
  s_iaload (show decode (cod 174) 518 = .ok (.iaload, 1) by decide +kernel), List.forall_mem_cons.mpr ⟨
  s_iastore (show decode (cod 174) 519 = .ok (.iastore, 1) by decide +kernel), List.forall_mem_cons.mpr ⟨
  s_aload_n (k := 0) (show decode (cod 174) 520 = .ok (.aload_n 0, 1) by decide +kernel), List.forall_mem_cons.mpr ⟨
  s_aload_n (k := 0) (show decode (cod 174) 521 = .ok (.aload_n 0, 1) by decide +kernel), List.forall_mem_cons.mpr ⟨
  s_getR (show decode (cod 174) 522 = .ok (.getfield 79, 3) by decide +kernel) wd_630 (Or.inl rfl) rfl, List.forall_mem_cons.mpr ⟨
  s_aload_n (k := 0) (show decode (cod 174) 525 = .ok (.aload_n 0, 1) by decide +kernel), List.forall_mem_cons.mpr ⟨
  s_getI (show decode (cod 174) 526 = .ok (.getfield 259, 3) by decide +kernel) wd_778 (Or.inl rfl) (Or.inl rfl), List.forall_mem_cons.mpr ⟨
  s_iconst (show decode (cod 174) 529 = .ok (.iconst 1, 1) by decide +kernel) rfl, List.forall_mem_cons.mpr ⟨
  s_isub (show decode (cod 174) 530 = .ok (.isub, 1) by decide +kernel), fun _ h => by cases h⟩⟩⟩⟩⟩⟩⟩⟩⟩⟩⟩⟩⟩⟩⟩⟩⟩⟩⟩⟩⟩⟩⟩⟩⟩⟩⟩⟩⟩⟩⟩⟩⟩⟩⟩⟩⟩⟩⟩⟩
set_option maxRecDepth 100000 in
set_option maxHeartbeats 4000000 in
theorem si174_7 (X : CX) (l : Launch) : ∀ q ∈ ([(531, iRI 532 qAI), (532, iP 533 (fK (.inl 1))), (533, iP 534 (f2I (fun x y => x + y))), (534, iW 537 (ptI 78)), (537, iP 1056 fGo), (540, iP 541 (fAld 0)), (541, iP 542 fDup), (542, iRI 545 (gtI 83)), (545, iP 546 (fK (.inl 1))), (546, iP 547 (f2I (fun x y => x - y))), (547, iW 550 (ptI 83)), (550, iP 551 (fAld 0)), (551, iP 552 fDup), (552, iRI 555 (gtI 81)), (555, iP 556 (fK (.inl 1))), (556, iP 557 (f2I (fun x y => x - y))), (557, iW 560 (ptI 81)), (560, iP 561 (fAld 0)), (561, iP 562 fDup), (562, iRI 565 (gtI 78)), (565, iP 566 (fK (.inl 1))), (566, iP 567 (f2I (fun x y => x + y))), (567, iW 570 (ptI 78)), (570, iP 1056 fGo), (573, iP 574 (fAld 0)), (574, iCK 577 12 177 1 1 1), (577, iB 580 584 (b1 (fun x => decide (x ≠ 0)))), (580, iP 583 (fK (.inl (-1000004)))), (583, iRet rI), (584, iP 585 (fAld 0)), (585, iP 586 fDup), (586, iRJ 589 (gtJ 77)), (589, iP 590 (fK (.inr (.inl 1)))), (590, iP 591 (f2J (fun x y => x + y))), (591, iW 594 (ptJ 77)), (594, iP 595 (fAld 0)), (595, iRR 598 (gtR 84)), (598, iP 599 (fAld 0)), (599, iRI 602 (gtI 83)), (602, iP 604 (fIld 6))] : List (Nat × AS)), SI X l 174 q.1 q.2 := List.forall_mem_cons.mpr ⟨
  s_iaload (show decode (cod 174) 531 = .ok (.iaload, 1) by decide +kernel), List.forall_mem_cons.mpr ⟨
  s_iconst (show decode (cod 174) 532 = .ok (.iconst 1, 1) by decide +kernel) rfl, List.forall_mem_cons.mpr ⟨
  s_iadd (show decode (cod 174) 533 = .ok (.iadd, 1) by decide +kernel), List.forall_mem_cons.mpr ⟨
  s_putI (show decode (cod 174) 534 = .ok (.putfield 256, 3) by decide +kernel) wd_774 (Or.inl rfl) (Or.inl rfl) rfl, List.forall_mem_cons.mpr ⟨
  s_goto (show decode (cod 174) 537 = .ok (.goto 519, 3) by decide +kernel) (by decide), List.forall_mem_cons.mpr ⟨
  s_aload_n (k := 0) (show decode (cod 174) 540 = .ok (.aload_n 0, 1) by decide +kernel), List.forall_mem_cons.mpr ⟨
  s_dup (show decode (cod 174) 541 = .ok (.dup, 1) by decide +kernel), List.forall_mem_cons.mpr ⟨
  s_getI (show decode (cod 174) 542 = .ok (.getfield 259, 3) by decide +kernel) wd_778 (Or.inl rfl) (Or.inl rfl), List.forall_mem_cons.mpr ⟨
  s_iconst (show decode (cod 174) 545 = .ok (.iconst 1, 1) by decide +kernel) rfl, List.forall_mem_cons.mpr ⟨
  s_isub (show decode (cod 174) 546 = .ok (.isub, 1) by decide +kernel), List.forall_mem_cons.mpr ⟨
  s_putI (show decode (cod 174) 547 = .ok (.putfield 259, 3) by decide +kernel) wd_778 (Or.inl rfl) (Or.inl rfl) rfl, List.forall_mem_cons.mpr ⟨
  s_aload_n (k := 0) (show decode (cod 174) 550 = .ok (.aload_n 0, 1) by decide +kernel), List.forall_mem_cons.mpr ⟨
  s_dup (show decode (cod 174) 551 = .ok (.dup, 1) by decide +kernel), List.forall_mem_cons.mpr ⟨
  s_getI (show decode (cod 174) 552 = .ok (.getfield 246, 3) by decide +kernel) wd_777 (Or.inl rfl) (Or.inl rfl), List.forall_mem_cons.mpr ⟨
  s_iconst (show decode (cod 174) 555 = .ok (.iconst 1, 1) by decide +kernel) rfl, List.forall_mem_cons.mpr ⟨
  s_isub (show decode (cod 174) 556 = .ok (.isub, 1) by decide +kernel), List.forall_mem_cons.mpr ⟨
  s_putI (show decode (cod 174) 557 = .ok (.putfield 246, 3) by decide +kernel) wd_777 (Or.inl rfl) (Or.inl rfl) rfl, List.forall_mem_cons.mpr ⟨
  s_aload_n (k := 0) (show decode (cod 174) 560 = .ok (.aload_n 0, 1) by decide +kernel), List.forall_mem_cons.mpr ⟨
  s_dup (show decode (cod 174) 561 = .ok (.dup, 1) by decide +kernel), List.forall_mem_cons.mpr ⟨
  s_getI (show decode (cod 174) 562 = .ok (.getfield 256, 3) by decide +kernel) wd_774 (Or.inl rfl) (Or.inl rfl), List.forall_mem_cons.mpr ⟨
  s_iconst (show decode (cod 174) 565 = .ok (.iconst 1, 1) by decide +kernel) rfl, List.forall_mem_cons.mpr ⟨
  s_iadd (show decode (cod 174) 566 = .ok (.iadd, 1) by decide +kernel), List.forall_mem_cons.mpr ⟨
  s_putI (show decode (cod 174) 567 = .ok (.putfield 256, 3) by decide +kernel) wd_774 (Or.inl rfl) (Or.inl rfl) rfl, List.forall_mem_cons.mpr ⟨
  s_goto (show decode (cod 174) 570 = .ok (.goto 486, 3) by decide +kernel) (by decide), List.forall_mem_cons.mpr ⟨
  s_aload_n (k := 0) (show decode (cod 174) 573 = .ok (.aload_n 0, 1) by decide +kernel), List.forall_mem_cons.mpr ⟨
  s_invK rfl (rcv_virt (show decode (cod 174) 574 = .ok (.invokevirtual 268, 3) by decide +kernel) cld_174_177 ⟨11, _, _, rfl, by decide, rfl⟩ wd_788 wd_789 wd_790), List.forall_mem_cons.mpr ⟨
  s_ifne (show decode (cod 174) 577 = .ok (.ifCond .ne 7, 3) by decide +kernel) (by decide), List.forall_mem_cons.mpr ⟨
  s_ldcw (show decode (cod 174) 580 = .ok (.ldc_w 272, 3) by decide +kernel) wd_791, List.forall_mem_cons.mpr ⟨
  s_ret (show decode (cod 174) 583 = .ok (.ireturn, 1) by decide +kernel) rI_ok (fun h => by cases h), List.forall_mem_cons.mpr ⟨
  s_aload_n (k := 0) (show decode (cod 174) 584 = .ok (.aload_n 0, 1) by decide +kernel), List.forall_mem_cons.mpr ⟨
  s_dup (show decode (cod 174) 585 = .ok (.dup, 1) by decide +kernel), List.forall_mem_cons.mpr ⟨
  s_getJ (show decode (cod 174) 586 = .ok (.getfield 252, 3) by decide +kernel) wd_773 (Or.inl rfl) rfl, List.forall_mem_cons.mpr ⟨
  s_lconst (show decode (cod 174) 589 = .ok (.lconst 1, 1) by decide +kernel) rfl, List.forall_mem_cons.mpr ⟨
  s_ladd (show decode (cod 174) 590 = .ok (.ladd, 1) by decide +kernel), List.forall_mem_cons.mpr ⟨
  s_putJ (show decode (cod 174) 591 = .ok (.putfield 252, 3) by decide +kernel) wd_773 (Or.inl rfl) (Or.inl rfl) rfl, List.forall_mem_cons.mpr ⟨
  s_aload_n (k := 0) (show decode (cod 174) 594 = .ok (.aload_n 0, 1) by decide +kernel), List.forall_mem_cons.mpr ⟨
  s_getR (show decode (cod 174) 595 = .ok (.getfield 79, 3) by decide +kernel) wd_630 (Or.inl rfl) rfl, List.forall_mem_cons.mpr ⟨
  s_aload_n (k := 0) (show decode (cod 174) 598 = .ok (.aload_n 0, 1) by decide +kernel), List.forall_mem_cons.mpr ⟨
  s_getI (show decode (cod 174) 599 = .ok (.getfield 259, 3) by decide +kernel) wd_778 (Or.inl rfl) (Or.inl rfl), List.forall_mem_cons.mpr ⟨
  s_iload (k := 6) (show decode (cod 174) 602 = .ok (.iload 6, 2) by decide +kernel), fun _ h => by cases h⟩⟩⟩⟩⟩⟩⟩⟩⟩⟩⟩⟩⟩⟩⟩⟩⟩⟩⟩⟩⟩⟩⟩⟩⟩⟩⟩⟩⟩⟩⟩⟩⟩⟩⟩⟩⟩⟩⟩⟩
set_option maxRecDepth 100000 in
set_option maxHeartbeats 4000000 in
theorem si174_8 (X : CX) (l : Launch) : ∀ q ∈ ([(604, iW 605 wAI), (605, iP 606 (fAld 0)), (606, iRR 609 (gtR 87)), (609, iP 610 (fAld 0)), (610, iRI 613 (gtI 83)), (613, iP 614 (fAld 0)), (614, iRJ 617 (gtJ 77)), (617, iW 618 wAJ), (618, iP 619 (fAld 0)), (619, iP 620 fDup), (620, iRI 623 (gtI 83)), (623, iP 624 (fK (.inl 1))), (624, iP 625 (f2I (fun x y => x + y))), (625, iW 628 (ptI 83)), (628, iP 630 (fIld 4)), (630, iP 631 (fK (.inl 1))), (631, iB 634 638 (b2 (fun x y => decide (x ≠ y)))), (634, iP 635 (fK (.inl 1))), (635, iP 639 fGo), (638, iP 639 (fK (.inl 0))), (639, iP 641 (fIst 7)), (641, iP 643 (fIld 4)), (643, iP 644 (fK (.inl 2))), (644, iB 647 683 (b2 (fun x y => decide (x ≠ y)))), (647, iP 648 (fAld 0)), (648, iP 649 (fAld 0)), (649, iRI 652 (gtI 57)), (652, iP 655 (fK (.inl 1103515245))), (655, iP 656 (f2I (fun x y => x * y))), (656, iP 659 (fK (.inl 12345))), (659, iP 660 (f2I (fun x y => x + y))), (660, iW 663 (ptI 57)), (663, iP 664 (fAld 0)), (664, iRI 667 (gtI 57)), (667, iP 669 (fK (.inl 16))), (669, iP 670 (f2I (fun x y => x >>> (y &&& 31)))), (670, iP 671 (fK (.inl 1))), (671, iP 672 (f2I (fun x y => x &&& y))), (672, iP 673 (fK (.inl 1))), (673, iB 676 680 (b2 (fun x y => decide (x ≠ y))))] : List (Nat × AS)), SI X l 174 q.1 q.2 := List.forall_mem_cons.mpr ⟨
  s_iastore (show decode (cod 174) 604 = .ok (.iastore, 1) by decide +kernel), List.forall_mem_cons.mpr ⟨
  s_aload_n (k := 0) (show decode (cod 174) 605 = .ok (.aload_n 0, 1) by decide +kernel), List.forall_mem_cons.mpr ⟨
  s_getR (show decode (cod 174) 606 = .ok (.getfield 88, 3) by decide +kernel) wd_633 (Or.inl rfl) rfl, List.forall_mem_cons.mpr ⟨
  s_aload_n (k := 0) (show decode (cod 174) 609 = .ok (.aload_n 0, 1) by decide +kernel), List.forall_mem_cons.mpr ⟨
  s_getI (show decode (cod 174) 610 = .ok (.getfield 259, 3) by decide +kernel) wd_778 (Or.inl rfl) (Or.inl rfl), List.forall_mem_cons.mpr ⟨
  s_aload_n (k := 0) (show decode (cod 174) 613 = .ok (.aload_n 0, 1) by decide +kernel), List.forall_mem_cons.mpr ⟨
  s_getJ (show decode (cod 174) 614 = .ok (.getfield 252, 3) by decide +kernel) wd_773 (Or.inl rfl) rfl, List.forall_mem_cons.mpr ⟨
  s_lastore (show decode (cod 174) 617 = .ok (.lastore, 1) by decide +kernel), List.forall_mem_cons.mpr ⟨
  s_aload_n (k := 0) (show decode (cod 174) 618 = .ok (.aload_n 0, 1) by decide +kernel), List.forall_mem_cons.mpr ⟨
  s_dup (show decode (cod 174) 619 = .ok (.dup, 1) by decide +kernel), List.forall_mem_cons.mpr ⟨
  s_getI (show decode (cod 174) 620 = .ok (.getfield 259, 3) by decide +kernel) wd_778 (Or.inl rfl) (Or.inl rfl), List.forall_mem_cons.mpr ⟨
  s_iconst (show decode (cod 174) 623 = .ok (.iconst 1, 1) by decide +kernel) rfl, List.forall_mem_cons.mpr ⟨
  s_iadd (show decode (cod 174) 624 = .ok (.iadd, 1) by decide +kernel), List.forall_mem_cons.mpr ⟨
  s_putI (show decode (cod 174) 625 = .ok (.putfield 259, 3) by decide +kernel) wd_778 (Or.inl rfl) (Or.inl rfl) rfl, List.forall_mem_cons.mpr ⟨
  s_iload (k := 4) (show decode (cod 174) 628 = .ok (.iload 4, 2) by decide +kernel), List.forall_mem_cons.mpr ⟨
  s_iconst (show decode (cod 174) 630 = .ok (.iconst 1, 1) by decide +kernel) rfl, List.forall_mem_cons.mpr ⟨
  s_icmpne (show decode (cod 174) 631 = .ok (.if_icmp .ne 7, 3) by decide +kernel) (by decide), List.forall_mem_cons.mpr ⟨
  s_iconst (show decode (cod 174) 634 = .ok (.iconst 1, 1) by decide +kernel) rfl, List.forall_mem_cons.mpr ⟨
  s_goto (show decode (cod 174) 635 = .ok (.goto 4, 3) by decide +kernel) (by decide), List.forall_mem_cons.mpr ⟨
  s_iconst (show decode (cod 174) 638 = .ok (.iconst 0, 1) by decide +kernel) rfl, List.forall_mem_cons.mpr ⟨
  s_istore (k := 7) (show decode (cod 174) 639 = .ok (.istore 7, 2) by decide +kernel), List.forall_mem_cons.mpr ⟨
  s_iload (k := 4) (show decode (cod 174) 641 = .ok (.iload 4, 2) by decide +kernel), List.forall_mem_cons.mpr ⟨
  s_iconst (show decode (cod 174) 643 = .ok (.iconst 2, 1) by decide +kernel) rfl, List.forall_mem_cons.mpr ⟨
  s_icmpne (show decode (cod 174) 644 = .ok (.if_icmp .ne 39, 3) by decide +kernel) (by decide), List.forall_mem_cons.mpr ⟨
  s_aload_n (k := 0) (show decode (cod 174) 647 = .ok (.aload_n 0, 1) by decide +kernel), List.forall_mem_cons.mpr ⟨
  s_aload_n (k := 0) (show decode (cod 174) 648 = .ok (.aload_n 0, 1) by decide +kernel), List.forall_mem_cons.mpr ⟨
  s_getI (show decode (cod 174) 649 = .ok (.getfield 28, 3) by decide +kernel) wd_613 (Or.inl rfl) (Or.inl rfl), List.forall_mem_cons.mpr ⟨
  s_ldcw (show decode (cod 174) 652 = .ok (.ldc_w 273, 3) by decide +kernel) wd_792, List.forall_mem_cons.mpr ⟨
  s_imul (show decode (cod 174) 655 = .ok (.imul, 1) by decide +kernel), List.forall_mem_cons.mpr ⟨
  s_sipush (show decode (cod 174) 656 = .ok (.sipush 12345, 3) by decide +kernel) rfl, List.forall_mem_cons.mpr ⟨
  s_iadd (show decode (cod 174) 659 = .ok (.iadd, 1) by decide +kernel), List.forall_mem_cons.mpr ⟨
  s_putI (show decode (cod 174) 660 = .ok (.putfield 28, 3) by decide +kernel) wd_613 (Or.inl rfl) (Or.inl rfl) rfl, List.forall_mem_cons.mpr ⟨
  s_aload_n (k := 0) (show decode (cod 174) 663 = .ok (.aload_n 0, 1) by decide +kernel), List.forall_mem_cons.mpr ⟨
  s_getI (show decode (cod 174) 664 = .ok (.getfield 28, 3) by decide +kernel) wd_613 (Or.inl rfl) (Or.inl rfl), List.forall_mem_cons.mpr ⟨
  s_bipush (show decode (cod 174) 667 = .ok (.bipush 16, 2) by decide +kernel) rfl, List.forall_mem_cons.mpr ⟨
  s_ishr (show decode (cod 174) 669 = .ok (.ishr, 1) by decide +kernel), List.forall_mem_cons.mpr ⟨
  s_iconst (show decode (cod 174) 670 = .ok (.iconst 1, 1) by decide +kernel) rfl, List.forall_mem_cons.mpr ⟨
  s_iand (show decode (cod 174) 671 = .ok (.iand, 1) by decide +kernel), List.forall_mem_cons.mpr ⟨
  s_iconst (show decode (cod 174) 672 = .ok (.iconst 1, 1) by decide +kernel) rfl, List.forall_mem_cons.mpr ⟨
  s_icmpne (show decode (cod 174) 673 = .ok (.if_icmp .ne 7, 3) by decide +kernel) (by decide), fun _ h => by cases h⟩⟩⟩⟩⟩⟩⟩⟩⟩⟩⟩⟩⟩⟩⟩⟩⟩⟩⟩⟩⟩⟩⟩⟩⟩⟩⟩⟩⟩⟩⟩⟩⟩⟩⟩⟩⟩⟩⟩⟩
set_option maxRecDepth 100000 in
set_option maxHeartbeats 4000000 in
theorem si174_9 (X : CX) (l : Launch) : ∀ q ∈ ([(676, iP 677 (fK (.inl 1))), (677, iP 681 fGo), (680, iP 681 (fK (.inl 0))), (681, iP 683 (fIst 7)), (683, iP 684 (fAld 0)), (684, iP 686 (fIld 7)), (686, iB 689 702 (b1 (fun x => decide (x = 0)))), (689, iP 690 (fAld 0)), (690, iP 692 (fIld 6)), (692, iP 694 (fK (.inl 7))), (694, iCK 697 12 176 5 3 1), (697, iP 698 (fK (.inl 1))), (698, iP 699 (f2I (fun x y => x + y))), (699, iP 706 fGo), (702, iP 704 (fIld 6)), (704, iP 705 (fK (.inl 1))), (705, iP 706 (f2I (fun x y => x + y))), (706, iW 709 (ptI 78)), (709, iP 1056 fGo), (712, iP 714 (fIld 4)), (714, iP 715 (fK (.inl 2))), (715, iB 718 761 (b2 (fun x y => decide (x ≤ y)))), (718, iP 719 (fAld 0)), (719, iRR 722 (gtR 88)), (722, iP 723 (fAld 0)), (723, iRI 726 (gtI 83)), (726, iP 727 (fK (.inl 1))), (727, iP 728 (f2I (fun x y => x - y))), (728, iP 729 (fAld 0)), (729, iRJ 732 (gtJ 77)), (732, iW 733 wAJ), (733, iP 734 (fAld 0)), (734, iP 735 (fAld 0)), (735, iRR 738 (gtR 87)), (738, iP 739 (fAld 0)), (739, iRI 742 (gtI 83)), (742, iP 743 (fK (.inl 1))), (743, iP 744 (f2I (fun x y => x - y))), (744, iRJ 745 qAJ), (745, iW 748 (ptJ 77))] : List (Nat × AS)), SI X l 174 q.1 q.2 := List.forall_mem_cons.mpr ⟨
  s_iconst (show decode (cod 174) 676 = .ok (.iconst 1, 1) by decide +kernel) rfl, List.forall_mem_cons.mpr ⟨
  s_goto (show decode (cod 174) 677 = .ok (.goto 4, 3) by decide +kernel) (by decide), List.forall_mem_cons.mpr ⟨
  s_iconst (show decode (cod 174) 680 = .ok (.iconst 0, 1) by decide +kernel) rfl, List.forall_mem_cons.mpr ⟨
  s_istore (k := 7) (show decode (cod 174) 681 = .ok (.istore 7, 2) by decide +kernel), List.forall_mem_cons.mpr ⟨
  s_aload_n (k := 0) (show decode (cod 174) 683 = .ok (.aload_n 0, 1) by decide +kernel), List.forall_mem_cons.mpr ⟨
  s_iload (k := 7) (show decode (cod 174) 684 = .ok (.iload 7, 2) by decide +kernel), List.forall_mem_cons.mpr ⟨
  s_ifeq (show decode (cod 174) 686 = .ok (.ifCond .eq 16, 3) by decide +kernel) (by decide), List.forall_mem_cons.mpr ⟨
  s_aload_n (k := 0) (show decode (cod 174) 689 = .ok (.aload_n 0, 1) by decide +kernel), List.forall_mem_cons.mpr ⟨
  s_iload (k := 6) (show decode (cod 174) 690 = .ok (.iload 6, 2) by decide +kernel), List.forall_mem_cons.mpr ⟨
  s_bipush (show decode (cod 174) 692 = .ok (.bipush 7, 2) by decide +kernel) rfl, List.forall_mem_cons.mpr ⟨
  s_invK rfl (rcv_virt (show decode (cod 174) 694 = .ok (.invokevirtual 265, 3) by decide +kernel) cld_174_176 ⟨11, _, _, rfl, by decide, rfl⟩ wd_784 wd_785 wd_786), List.forall_mem_cons.mpr ⟨
  s_iconst (show decode (cod 174) 697 = .ok (.iconst 1, 1) by decide +kernel) rfl, List.forall_mem_cons.mpr ⟨
  s_iadd (show decode (cod 174) 698 = .ok (.iadd, 1) by decide +kernel), List.forall_mem_cons.mpr ⟨
  s_goto (show decode (cod 174) 699 = .ok (.goto 7, 3) by decide +kernel) (by decide), List.forall_mem_cons.mpr ⟨
  s_iload (k := 6) (show decode (cod 174) 702 = .ok (.iload 6, 2) by decide +kernel), List.forall_mem_cons.mpr ⟨
  s_iconst (show decode (cod 174) 704 = .ok (.iconst 1, 1) by decide +kernel) rfl, List.forall_mem_cons.mpr ⟨
  s_iadd (show decode (cod 174) 705 = .ok (.iadd, 1) by decide +kernel), List.forall_mem_cons.mpr ⟨
  s_putI (show decode (cod 174) 706 = .ok (.putfield 256, 3) by decide +kernel) wd_774 (Or.inl rfl) (Or.inl rfl) rfl, List.forall_mem_cons.mpr ⟨
  s_goto (show decode (cod 174) 709 = .ok (.goto 347, 3) by decide +kernel) (by decide), List.forall_mem_cons.mpr ⟨
  s_iload (k := 4) (show decode (cod 174) 712 = .ok (.iload 4, 2) by decide +kernel), List.forall_mem_cons.mpr ⟨
  s_iconst (show decode (cod 174) 714 = .ok (.iconst 2, 1) by decide +kernel) rfl, List.forall_mem_cons.mpr ⟨
  s_icmple (show decode (cod 174) 715 = .ok (.if_icmp .le 46, 3) by decide +kernel) (by decide), List.forall_mem_cons.mpr ⟨
  s_aload_n (k := 0) (show decode (cod 174) 718 = .ok (.aload_n 0, 1) by decide +kernel), List.forall_mem_cons.mpr ⟨
  s_getR (show decode (cod 174) 719 = .ok (.getfield 91, 3) by decide +kernel) wd_634 (Or.inl rfl) rfl, List.forall_mem_cons.mpr ⟨
  s_aload_n (k := 0) (show decode (cod 174) 722 = .ok (.aload_n 0, 1) by decide +kernel), List.forall_mem_cons.mpr ⟨
  s_getI (show decode (cod 174) 723 = .ok (.getfield 259, 3) by decide +kernel) wd_778 (Or.inl rfl) (Or.inl rfl), List.forall_mem_cons.mpr ⟨
  s_iconst (show decode (cod 174) 726 = .ok (.iconst 1, 1) by decide +kernel) rfl, List.forall_mem_cons.mpr ⟨
  s_isub (show decode (cod 174) 727 = .ok (.isub, 1) by decide +kernel), List.forall_mem_cons.mpr ⟨
  s_aload_n (k := 0) (show decode (cod 174) 728 = .ok (.aload_n 0, 1) by decide +kernel), List.forall_mem_cons.mpr ⟨
  s_getJ (show decode (cod 174) 729 = .ok (.getfield 252, 3) by decide +kernel) wd_773 (Or.inl rfl) rfl, List.forall_mem_cons.mpr ⟨
  s_lastore (show decode (cod 174) 732 = .ok (.lastore, 1) by decide +kernel), List.forall_mem_cons.mpr ⟨
  s_aload_n (k := 0) (show decode (cod 174) 733 = .ok (.aload_n 0, 1) by decide +kernel), List.forall_mem_cons.mpr ⟨
  s_aload_n (k := 0) (show decode (cod 174) 734 = .ok (.aload_n 0, 1) by decide +kernel), List.forall_mem_cons.mpr ⟨
  s_getR (show decode (cod 174) 735 = .ok (.getfield 88, 3) by decide +kernel) wd_633 (Or.inl rfl) rfl, List.forall_mem_cons.mpr ⟨
  s_aload_n (k := 0) (show decode (cod 174) 738 = .ok (.aload_n 0, 1) by decide +kernel), List.forall_mem_cons.mpr ⟨
  s_getI (show decode (cod 174) 739 = .ok (.getfield 259, 3) by decide +kernel) wd_778 (Or.inl rfl) (Or.inl rfl), List.forall_mem_cons.mpr ⟨
  s_iconst (show decode (cod 174) 742 = .ok (.iconst 1, 1) by decide +kernel) rfl, List.forall_mem_cons.mpr ⟨
  s_isub (show decode (cod 174) 743 = .ok (.isub, 1) by decide +kernel), List.forall_mem_cons.mpr ⟨
  s_laload (show decode (cod 174) 744 = .ok (.laload, 1) by decide +kernel), List.forall_mem_cons.mpr ⟨
  s_putJ (show decode (cod 174) 745 = .ok (.putfield 252, 3) by decide +kernel) wd_773 (Or.inl rfl) (Or.inl rfl) rfl, fun _ h => by cases h⟩⟩⟩⟩⟩⟩⟩⟩⟩⟩⟩⟩⟩⟩⟩⟩⟩⟩⟩⟩⟩⟩⟩⟩⟩⟩⟩⟩⟩⟩⟩⟩⟩⟩⟩⟩⟩⟩⟩⟩
set_option maxRecDepth 100000 in
set_option maxHeartbeats 4000000 in
theorem si174_10 (X : CX) (l : Launch) : ∀ q ∈ ([(748, iP 749 (fAld 0)), (749, iP 750 fDup), (750, iRI 753 (gtI 78)), (753, iP 754 (fK (.inl 1))), (754, iP 755 (f2I (fun x y => x + y))), (755, iW 758 (ptI 78)), (758, iP 1056 fGo), (761, iP 762 (fAld 0)), (762, iP 763 (fAld 0)), (763, iP 764 (fAld 0)), (764, iRR 767 (gtR 84)), (767, iP 768 (fAld 0)), (768, iRI 771 (gtI 83)), (771, iP 772 (fK (.inl 1))), (772, iP 773 (f2I (fun x y => x - y))), (773, iRI 774 qAI), (774, iP 776 (fK (.inl 8))), (776, iCK 779 12 176 5 3 1), (779, iW 782 (ptI 78)), (782, iP 1056 fGo), (785, iP 786 (fAld 0)), (786, iP 787 fDup), (787, iRI 790 (gtI 83)), (790, iP 791 (fK (.inl 1))), (791, iP 792 (f2I (fun x y => x - y))), (792, iW 795 (ptI 83)), (795, iP 797 (fIld 4)), (797, iP 798 (fK (.inl 2))), (798, iB 801 854 (b2 (fun x y => decide (x ≤ y)))), (801, iP 802 (fAld 0)), (802, iRR 805 (gtR 88)), (805, iP 806 (fAld 0)), (806, iRI 809 (gtI 83)), (809, iRJ 810 qAJ), (810, iP 812 (fLst 7)), (812, iP 813 (fAld 0)), (813, iP 815 (fIld 4)), (815, iP 816 (fK (.inl 3))), (816, iB 819 832 (b2 (fun x y => decide (x ≠ y)))), (819, iP 821 (fJld 7))] : List (Nat × AS)), SI X l 174 q.1 q.2 := List.forall_mem_cons.mpr ⟨
  s_aload_n (k := 0) (show decode (cod 174) 748 = .ok (.aload_n 0, 1) by decide +kernel), List.forall_mem_cons.mpr ⟨
  s_dup (show decode (cod 174) 749 = .ok (.dup, 1) by decide +kernel), List.forall_mem_cons.mpr ⟨
  s_getI (show decode (cod 174) 750 = .ok (.getfield 256, 3) by decide +kernel) wd_774 (Or.inl rfl) (Or.inl rfl), List.forall_mem_cons.mpr ⟨
  s_iconst (show decode (cod 174) 753 = .ok (.iconst 1, 1) by decide +kernel) rfl, List.forall_mem_cons.mpr ⟨
  s_iadd (show decode (cod 174) 754 = .ok (.iadd, 1) by decide +kernel), List.forall_mem_cons.mpr ⟨
  s_putI (show decode (cod 174) 755 = .ok (.putfield 256, 3) by decide +kernel) wd_774 (Or.inl rfl) (Or.inl rfl) rfl, List.forall_mem_cons.mpr ⟨
  s_goto (show decode (cod 174) 758 = .ok (.goto 298, 3) by decide +kernel) (by decide), List.forall_mem_cons.mpr ⟨
  s_aload_n (k := 0) (show decode (cod 174) 761 = .ok (.aload_n 0, 1) by decide +kernel), List.forall_mem_cons.mpr ⟨
  s_aload_n (k := 0) (show decode (cod 174) 762 = .ok (.aload_n 0, 1) by decide +kernel), List.forall_mem_cons.mpr ⟨
  s_aload_n (k := 0) (show decode (cod 174) 763 = .ok (.aload_n 0, 1) by decide +kernel), List.forall_mem_cons.mpr ⟨
  s_getR (show decode (cod 174) 764 = .ok (.getfield 79, 3) by decide +kernel) wd_630 (Or.inl rfl) rfl, List.forall_mem_cons.mpr ⟨
  s_aload_n (k := 0) (show decode (cod 174) 767 = .ok (.aload_n 0, 1) by decide +kernel), List.forall_mem_cons.mpr ⟨
  s_getI (show decode (cod 174) 768 = .ok (.getfield 259, 3) by decide +kernel) wd_778 (Or.inl rfl) (Or.inl rfl), List.forall_mem_cons.mpr ⟨
  s_iconst (show decode (cod 174) 771 = .ok (.iconst 1, 1) by decide +kernel) rfl, List.forall_mem_cons.mpr ⟨
  s_isub (show decode (cod 174) 772 = .ok (.isub, 1) by decide +kernel), List.forall_mem_cons.mpr ⟨
  s_iaload (show decode (cod 174) 773 = .ok (.iaload, 1) by decide +kernel), List.forall_mem_cons.mpr ⟨
  s_bipush (show decode (cod 174) 774 = .ok (.bipush 8, 2) by decide +kernel) rfl, List.forall_mem_cons.mpr ⟨
  s_invK rfl (rcv_virt (show decode (cod 174) 776 = .ok (.invokevirtual 265, 3) by decide +kernel) cld_174_176 ⟨11, _, _, rfl, by decide, rfl⟩ wd_784 wd_785 wd_786), List.forall_mem_cons.mpr ⟨
  s_putI (show decode (cod 174) 779 = .ok (.putfield 256, 3) by decide +kernel) wd_774 (Or.inl rfl) (Or.inl rfl) rfl, List.forall_mem_cons.mpr ⟨
  s_goto (show decode (cod 174) 782 = .ok (.goto 274, 3) by decide +kernel) (by decide), List.forall_mem_cons.mpr ⟨
  s_aload_n (k := 0) (show decode (cod 174) 785 = .ok (.aload_n 0, 1) by decide +kernel), List.forall_mem_cons.mpr ⟨
  s_dup (show decode (cod 174) 786 = .ok (.dup, 1) by decide +kernel), List.forall_mem_cons.mpr ⟨
  s_getI (show decode (cod 174) 787 = .ok (.getfield 259, 3) by decide +kernel) wd_778 (Or.inl rfl) (Or.inl rfl), List.forall_mem_cons.mpr ⟨
  s_iconst (show decode (cod 174) 790 = .ok (.iconst 1, 1) by decide +kernel) rfl, List.forall_mem_cons.mpr ⟨
  s_isub (show decode (cod 174) 791 = .ok (.isub, 1) by decide +kernel), List.forall_mem_cons.mpr ⟨
  s_putI (show decode (cod 174) 792 = .ok (.putfield 259, 3) by decide +kernel) wd_778 (Or.inl rfl) (Or.inl rfl) rfl, List.forall_mem_cons.mpr ⟨
  s_iload (k := 4) (show decode (cod 174) 795 = .ok (.iload 4, 2) by decide +kernel), List.forall_mem_cons.mpr ⟨
  s_iconst (show decode (cod 174) 797 = .ok (.iconst 2, 1) by decide +kernel) rfl, List.forall_mem_cons.mpr ⟨
  s_icmple (show decode (cod 174) 798 = .ok (.if_icmp .le 56, 3) by decide +kernel) (by decide), List.forall_mem_cons.mpr ⟨
  s_aload_n (k := 0) (show decode (cod 174) 801 = .ok (.aload_n 0, 1) by decide +kernel), List.forall_mem_cons.mpr ⟨
  s_getR (show decode (cod 174) 802 = .ok (.getfield 91, 3) by decide +kernel) wd_634 (Or.inl rfl) rfl, List.forall_mem_cons.mpr ⟨
  s_aload_n (k := 0) (show decode (cod 174) 805 = .ok (.aload_n 0, 1) by decide +kernel), List.forall_mem_cons.mpr ⟨
  s_getI (show decode (cod 174) 806 = .ok (.getfield 259, 3) by decide +kernel) wd_778 (Or.inl rfl) (Or.inl rfl), List.forall_mem_cons.mpr ⟨
  s_laload (show decode (cod 174) 809 = .ok (.laload, 1) by decide +kernel), List.forall_mem_cons.mpr ⟨
  s_lstore (k := 7) (show decode (cod 174) 810 = .ok (.lstore 7, 2) by decide +kernel), List.forall_mem_cons.mpr ⟨
  s_aload_n (k := 0) (show decode (cod 174) 812 = .ok (.aload_n 0, 1) by decide +kernel), List.forall_mem_cons.mpr ⟨
  s_iload (k := 4) (show decode (cod 174) 813 = .ok (.iload 4, 2) by decide +kernel), List.forall_mem_cons.mpr ⟨
  s_iconst (show decode (cod 174) 815 = .ok (.iconst 3, 1) by decide +kernel) rfl, List.forall_mem_cons.mpr ⟨
  s_icmpne (show decode (cod 174) 816 = .ok (.if_icmp .ne 16, 3) by decide +kernel) (by decide), List.forall_mem_cons.mpr ⟨
  s_lload (k := 7) (show decode (cod 174) 819 = .ok (.lload 7, 2) by decide +kernel), fun _ h => by cases h⟩⟩⟩⟩⟩⟩⟩⟩⟩⟩⟩⟩⟩⟩⟩⟩⟩⟩⟩⟩⟩⟩⟩⟩⟩⟩⟩⟩⟩⟩⟩⟩⟩⟩⟩⟩⟩⟩⟩⟩
set_option maxRecDepth 100000 in
set_option maxHeartbeats 4000000 in
theorem si174_11 (X : CX) (l : Launch) : ∀ q ∈ ([(821, iP 822 (fAld 0)), (822, iRJ 825 (gtJ 77)), (825, iP 826 fLcmp), (826, iB 829 847 (b1 (fun x => decide (x ≤ 0)))), (829, iP 842 fGo), (832, iP 834 (fJld 7)), (834, iP 835 (fAld 0)), (835, iRJ 838 (gtJ 77)), (838, iP 839 fLcmp), (839, iB 842 847 (b1 (fun x => decide (0 ≤ x)))), (842, iP 844 (fJld 7)), (844, iP 851 fGo), (847, iP 848 (fAld 0)), (848, iRJ 851 (gtJ 77)), (851, iW 854 (ptJ 77)), (854, iP 855 (fAld 0)), (855, iP 856 fDup), (856, iRI 859 (gtI 78)), (859, iP 860 (fK (.inl 1))), (860, iP 861 (f2I (fun x y => x + y))), (861, iW 864 (ptI 78)), (864, iP 1056 fGo), (867, iP 868 (fAld 0)), (868, iCK 871 12 177 1 1 1), (871, iB 874 878 (b1 (fun x => decide (x ≠ 0)))), (874, iP 877 (fK (.inl (-1000004)))), (877, iRet rI), (878, iP 879 (fAld 0)), (879, iP 880 fDup), (880, iRJ 883 (gtJ 77)), (883, iP 884 (fK (.inr (.inl 1)))), (884, iP 885 (f2J (fun x y => x + y))), (885, iW 888 (ptJ 77)), (888, iP 889 (fAld 0)), (889, iP 891 (fIld 6)), (891, iP 892 (fK (.inl 0))), (892, iCK 895 12 175 5 3 1), (895, iP 897 (fIst 7)), (897, iP 898 (fAld 0)), (898, iP 900 (fIld 6))] : List (Nat × AS)), SI X l 174 q.1 q.2 := List.forall_mem_cons.mpr ⟨
  s_aload_n (k := 0) (show decode (cod 174) 821 = .ok (.aload_n 0, 1) by decide +kernel), List.forall_mem_cons.mpr ⟨
  s_getJ (show decode (cod 174) 822 = .ok (.getfield 252, 3) by decide +kernel) wd_773 (Or.inl rfl) rfl, List.forall_mem_cons.mpr ⟨
  s_lcmp (show decode (cod 174) 825 = .ok (.lcmp, 1) by decide +kernel), List.forall_mem_cons.mpr ⟨
  s_ifle (show decode (cod 174) 826 = .ok (.ifCond .le 21, 3) by decide +kernel) (by decide), List.forall_mem_cons.mpr ⟨
  s_goto (show decode (cod 174) 829 = .ok (.goto 13, 3) by decide +kernel) (by decide), List.forall_mem_cons.mpr ⟨
  s_lload (k := 7) (show decode (cod 174) 832 = .ok (.lload 7, 2) by decide +kernel), List.forall_mem_cons.mpr ⟨
  s_aload_n (k := 0) (show decode (cod 174) 834 = .ok (.aload_n 0, 1) by decide +kernel), List.forall_mem_cons.mpr ⟨
  s_getJ (show decode (cod 174) 835 = .ok (.getfield 252, 3) by decide +kernel) wd_773 (Or.inl rfl) rfl, List.forall_mem_cons.mpr ⟨
  s_lcmp (show decode (cod 174) 838 = .ok (.lcmp, 1) by decide +kernel), List.forall_mem_cons.mpr ⟨
  s_ifge (show decode (cod 174) 839 = .ok (.ifCond .ge 8, 3) by decide +kernel) (by decide), List.forall_mem_cons.mpr ⟨
  s_lload (k := 7) (show decode (cod 174) 842 = .ok (.lload 7, 2) by decide +kernel), List.forall_mem_cons.mpr ⟨
  s_goto (show decode (cod 174) 844 = .ok (.goto 7, 3) by decide +kernel) (by decide), List.forall_mem_cons.mpr ⟨
  s_aload_n (k := 0) (show decode (cod 174) 847 = .ok (.aload_n 0, 1) by decide +kernel), List.forall_mem_cons.mpr ⟨
  s_getJ (show decode (cod 174) 848 = .ok (.getfield 252, 3) by decide +kernel) wd_773 (Or.inl rfl) rfl, List.forall_mem_cons.mpr ⟨
  s_putJ (show decode (cod 174) 851 = .ok (.putfield 252, 3) by decide +kernel) wd_773 (Or.inl rfl) (Or.inl rfl) rfl, List.forall_mem_cons.mpr ⟨
  s_aload_n (k := 0) (show decode (cod 174) 854 = .ok (.aload_n 0, 1) by decide +kernel), List.forall_mem_cons.mpr ⟨
  s_dup (show decode (cod 174) 855 = .ok (.dup, 1) by decide +kernel), List.forall_mem_cons.mpr ⟨
  s_getI (show decode (cod 174) 856 = .ok (.getfield 256, 3) by decide +kernel) wd_774 (Or.inl rfl) (Or.inl rfl), List.forall_mem_cons.mpr ⟨
  s_iconst (show decode (cod 174) 859 = .ok (.iconst 1, 1) by decide +kernel) rfl, List.forall_mem_cons.mpr ⟨
  s_iadd (show decode (cod 174) 860 = .ok (.iadd, 1) by decide +kernel), List.forall_mem_cons.mpr ⟨
  s_putI (show decode (cod 174) 861 = .ok (.putfield 256, 3) by decide +kernel) wd_774 (Or.inl rfl) (Or.inl rfl) rfl, List.forall_mem_cons.mpr ⟨
  s_goto (show decode (cod 174) 864 = .ok (.goto 192, 3) by decide +kernel) (by decide), List.forall_mem_cons.mpr ⟨
  s_aload_n (k := 0) (show decode (cod 174) 867 = .ok (.aload_n 0, 1) by decide +kernel), List.forall_mem_cons.mpr ⟨
  s_invK rfl (rcv_virt (show decode (cod 174) 868 = .ok (.invokevirtual 268, 3) by decide +kernel) cld_174_177 ⟨11, _, _, rfl, by decide, rfl⟩ wd_788 wd_789 wd_790), List.forall_mem_cons.mpr ⟨
  s_ifne (show decode (cod 174) 871 = .ok (.ifCond .ne 7, 3) by decide +kernel) (by decide), List.forall_mem_cons.mpr ⟨
  s_ldcw (show decode (cod 174) 874 = .ok (.ldc_w 272, 3) by decide +kernel) wd_791, List.forall_mem_cons.mpr ⟨
  s_ret (show decode (cod 174) 877 = .ok (.ireturn, 1) by decide +kernel) rI_ok (fun h => by cases h), List.forall_mem_cons.mpr ⟨
  s_aload_n (k := 0) (show decode (cod 174) 878 = .ok (.aload_n 0, 1) by decide +kernel), List.forall_mem_cons.mpr ⟨
  s_dup (show decode (cod 174) 879 = .ok (.dup, 1) by decide +kernel), List.forall_mem_cons.mpr ⟨
  s_getJ (show decode (cod 174) 880 = .ok (.getfield 252, 3) by decide +kernel) wd_773 (Or.inl rfl) rfl, List.forall_mem_cons.mpr ⟨
  s_lconst (show decode (cod 174) 883 = .ok (.lconst 1, 1) by decide +kernel) rfl, List.forall_mem_cons.mpr ⟨
  s_ladd (show decode (cod 174) 884 = .ok (.ladd, 1) by decide +kernel), List.forall_mem_cons.mpr ⟨
  s_putJ (show decode (cod 174) 885 = .ok (.putfield 252, 3) by decide +kernel) wd_773 (Or.inl rfl) (Or.inl rfl) rfl, List.forall_mem_cons.mpr ⟨
  s_aload_n (k := 0) (show decode (cod 174) 888 = .ok (.aload_n 0, 1) by decide +kernel), List.forall_mem_cons.mpr ⟨
  s_iload (k := 6) (show decode (cod 174) 889 = .ok (.iload 6, 2) by decide +kernel), List.forall_mem_cons.mpr ⟨
  s_iconst (show decode (cod 174) 891 = .ok (.iconst 0, 1) by decide +kernel) rfl, List.forall_mem_cons.mpr ⟨
  s_invK rfl (rcv_virt (show decode (cod 174) 892 = .ok (.invokevirtual 262, 3) by decide +kernel) cld_174_175 ⟨11, _, _, rfl, by decide, rfl⟩ wd_780 wd_781 wd_782), List.forall_mem_cons.mpr ⟨
  s_istore (k := 7) (show decode (cod 174) 895 = .ok (.istore 7, 2) by decide +kernel), List.forall_mem_cons.mpr ⟨
  s_aload_n (k := 0) (show decode (cod 174) 897 = .ok (.aload_n 0, 1) by decide +kernel), List.forall_mem_cons.mpr ⟨
  s_iload (k := 6) (show decode (cod 174) 898 = .ok (.iload 6, 2) by decide +kernel), fun _ h => by cases h⟩⟩⟩⟩⟩⟩⟩⟩⟩⟩⟩⟩⟩⟩⟩⟩⟩⟩⟩⟩⟩⟩⟩⟩⟩⟩⟩⟩⟩⟩⟩⟩⟩⟩⟩⟩⟩⟩⟩⟩
set_option maxRecDepth 100000 in
set_option maxHeartbeats 4000000 in
theorem si174_12 (X : CX) (l : Launch) : ∀ q ∈ ([(900, iP 901 (fK (.inl 1))), (901, iCK 904 12 175 5 3 1), (904, iP 906 (fIst 8)), (906, iP 907 (fAld 0)), (907, iRR 910 (gtR 84)), (910, iP 911 (fAld 0)), (911, iRI 914 (gtI 83)), (914, iP 916 (fIld 6)), (916, iW 917 wAI), (917, iP 918 (fAld 0)), (918, iRR 921 (gtR 89)), (921, iP 923 (fK (.inl 7))), (923, iP 924 (fAld 0)), (924, iRI 927 (gtI 83)), (927, iP 928 (f2I (fun x y => x * y))), (928, iP 929 (fAld 0)), (929, iRI 932 (gtI 79)), (932, iW 933 wAI), (933, iP 934 (fAld 0)), (934, iRR 937 (gtR 89)), (937, iP 939 (fK (.inl 7))), (939, iP 940 (fAld 0)), (940, iRI 943 (gtI 83)), (943, iP 944 (f2I (fun x y => x * y))), (944, iP 945 (fK (.inl 1))), (945, iP 946 (f2I (fun x y => x + y))), (946, iP 947 (fAld 0)), (947, iRI 950 (gtI 80)), (950, iW 951 wAI), (951, iP 952 (fAld 0)), (952, iRR 955 (gtR 89)), (955, iP 957 (fK (.inl 7))), (957, iP 958 (fAld 0)), (958, iRI 961 (gtI 83)), (961, iP 962 (f2I (fun x y => x * y))), (962, iP 963 (fK (.inl 2))), (963, iP 964 (f2I (fun x y => x + y))), (964, iP 965 (fAld 0)), (965, iRI 968 (gtI 81)), (968, iW 969 wAI)] : List (Nat × AS)), SI X l 174 q.1 q.2 := List.forall_mem_cons.mpr ⟨
  s_iconst (show decode (cod 174) 900 = .ok (.iconst 1, 1) by decide +kernel) rfl, List.forall_mem_cons.mpr ⟨
  s_invK rfl (rcv_virt (show decode (cod 174) 901 = .ok (.invokevirtual 262, 3) by decide +kernel) cld_174_175 ⟨11, _, _, rfl, by decide, rfl⟩ wd_780 wd_781 wd_782), List.forall_mem_cons.mpr ⟨
  s_istore (k := 8) (show decode (cod 174) 904 = .ok (.istore 8, 2) by decide +kernel), List.forall_mem_cons.mpr ⟨
  s_aload_n (k := 0) (show decode (cod 174) 906 = .ok (.aload_n 0, 1) by decide +kernel), List.forall_mem_cons.mpr ⟨
  s_getR (show decode (cod 174) 907 = .ok (.getfield 79, 3) by decide +kernel) wd_630 (Or.inl rfl) rfl, List.forall_mem_cons.mpr ⟨
  s_aload_n (k := 0) (show decode (cod 174) 910 = .ok (.aload_n 0, 1) by decide +kernel), List.forall_mem_cons.mpr ⟨
  s_getI (show decode (cod 174) 911 = .ok (.getfield 259, 3) by decide +kernel) wd_778 (Or.inl rfl) (Or.inl rfl), List.forall_mem_cons.mpr ⟨
  s_iload (k := 6) (show decode (cod 174) 914 = .ok (.iload 6, 2) by decide +kernel), List.forall_mem_cons.mpr ⟨
  s_iastore (show decode (cod 174) 916 = .ok (.iastore, 1) by decide +kernel), List.forall_mem_cons.mpr ⟨
  s_aload_n (k := 0) (show decode (cod 174) 917 = .ok (.aload_n 0, 1) by decide +kernel), List.forall_mem_cons.mpr ⟨
  s_getR (show decode (cod 174) 918 = .ok (.getfield 94, 3) by decide +kernel) wd_635 (Or.inl rfl) rfl, List.forall_mem_cons.mpr ⟨
  s_bipush (show decode (cod 174) 921 = .ok (.bipush 7, 2) by decide +kernel) rfl, List.forall_mem_cons.mpr ⟨
  s_aload_n (k := 0) (show decode (cod 174) 923 = .ok (.aload_n 0, 1) by decide +kernel), List.forall_mem_cons.mpr ⟨
  s_getI (show decode (cod 174) 924 = .ok (.getfield 259, 3) by decide +kernel) wd_778 (Or.inl rfl) (Or.inl rfl), List.forall_mem_cons.mpr ⟨
  s_imul (show decode (cod 174) 927 = .ok (.imul, 1) by decide +kernel), List.forall_mem_cons.mpr ⟨
  s_aload_n (k := 0) (show decode (cod 174) 928 = .ok (.aload_n 0, 1) by decide +kernel), List.forall_mem_cons.mpr ⟨
  s_getI (show decode (cod 174) 929 = .ok (.getfield 240, 3) by decide +kernel) wd_775 (Or.inl rfl) (Or.inl rfl), List.forall_mem_cons.mpr ⟨
  s_iastore (show decode (cod 174) 932 = .ok (.iastore, 1) by decide +kernel), List.forall_mem_cons.mpr ⟨
  s_aload_n (k := 0) (show decode (cod 174) 933 = .ok (.aload_n 0, 1) by decide +kernel), List.forall_mem_cons.mpr ⟨
  s_getR (show decode (cod 174) 934 = .ok (.getfield 94, 3) by decide +kernel) wd_635 (Or.inl rfl) rfl, List.forall_mem_cons.mpr ⟨
  s_bipush (show decode (cod 174) 937 = .ok (.bipush 7, 2) by decide +kernel) rfl, List.forall_mem_cons.mpr ⟨
  s_aload_n (k := 0) (show decode (cod 174) 939 = .ok (.aload_n 0, 1) by decide +kernel), List.forall_mem_cons.mpr ⟨
  s_getI (show decode (cod 174) 940 = .ok (.getfield 259, 3) by decide +kernel) wd_778 (Or.inl rfl) (Or.inl rfl), List.forall_mem_cons.mpr ⟨
  s_imul (show decode (cod 174) 943 = .ok (.imul, 1) by decide +kernel), List.forall_mem_cons.mpr ⟨
  s_iconst (show decode (cod 174) 944 = .ok (.iconst 1, 1) by decide +kernel) rfl, List.forall_mem_cons.mpr ⟨
  s_iadd (show decode (cod 174) 945 = .ok (.iadd, 1) by decide +kernel), List.forall_mem_cons.mpr ⟨
  s_aload_n (k := 0) (show decode (cod 174) 946 = .ok (.aload_n 0, 1) by decide +kernel), List.forall_mem_cons.mpr ⟨
  s_getI (show decode (cod 174) 947 = .ok (.getfield 243, 3) by decide +kernel) wd_776 (Or.inl rfl) (Or.inl rfl), List.forall_mem_cons.mpr ⟨
  s_iastore (show decode (cod 174) 950 = .ok (.iastore, 1) by decide +kernel), List.forall_mem_cons.mpr ⟨
  s_aload_n (k := 0) (show decode (cod 174) 951 = .ok (.aload_n 0, 1) by decide +kernel), List.forall_mem_cons.mpr ⟨
  s_getR (show decode (cod 174) 952 = .ok (.getfield 94, 3) by decide +kernel) wd_635 (Or.inl rfl) rfl, List.forall_mem_cons.mpr ⟨
  s_bipush (show decode (cod 174) 955 = .ok (.bipush 7, 2) by decide +kernel) rfl, List.forall_mem_cons.mpr ⟨
  s_aload_n (k := 0) (show decode (cod 174) 957 = .ok (.aload_n 0, 1) by decide +kernel), List.forall_mem_cons.mpr ⟨
  s_getI (show decode (cod 174) 958 = .ok (.getfield 259, 3) by decide +kernel) wd_778 (Or.inl rfl) (Or.inl rfl), List.forall_mem_cons.mpr ⟨
  s_imul (show decode (cod 174) 961 = .ok (.imul, 1) by decide +kernel), List.forall_mem_cons.mpr ⟨
  s_iconst (show decode (cod 174) 962 = .ok (.iconst 2, 1) by decide +kernel) rfl, List.forall_mem_cons.mpr ⟨
  s_iadd (show decode (cod 174) 963 = .ok (.iadd, 1) by decide +kernel), List.forall_mem_cons.mpr ⟨
  s_aload_n (k := 0) (show decode (cod 174) 964 = .ok (.aload_n 0, 1) by decide +kernel), List.forall_mem_cons.mpr ⟨
  s_getI (show decode (cod 174) 965 = .ok (.getfield 246, 3) by decide +kernel) wd_777 (Or.inl rfl) (Or.inl rfl), List.forall_mem_cons.mpr ⟨
  s_iastore (show decode (cod 174) 968 = .ok (.iastore, 1) by decide +kernel), fun _ h => by cases h⟩⟩⟩⟩⟩⟩⟩⟩⟩⟩⟩⟩⟩⟩⟩⟩⟩⟩⟩⟩⟩⟩⟩⟩⟩⟩⟩⟩⟩⟩⟩⟩⟩⟩⟩⟩⟩⟩⟩⟩
set_option maxRecDepth 100000 in
set_option maxHeartbeats 4000000 in
theorem si174_13 (X : CX) (l : Launch) : ∀ q ∈ ([(969, iP 970 (fK (.inl 0))), (970, iP 972 (fIst 9)), (972, iP 974 (fIld 9)), (974, iP 975 (fK (.inl 3))), (975, iB 978 1008 (b2 (fun x y => decide (y ≤ x)))), (978, iP 979 (fAld 0)), (979, iRR 982 (gtR 89)), (982, iP 984 (fK (.inl 7))), (984, iP 985 (fAld 0)), (985, iRI 988 (gtI 83)), (988, iP 989 (f2I (fun x y => x * y))), (989, iP 990 (fK (.inl 3))), (990, iP 991 (f2I (fun x y => x + y))), (991, iP 993 (fIld 9)), (993, iP 994 (f2I (fun x y => x + y))), (994, iP 995 (fAld 0)), (995, iRR 998 (gtR 82)), (998, iP 1000 (fIld 9)), (1000, iRI 1001 qAI), (1001, iW 1002 wAI), (1002, iP 1005 (fInc 9 1)), (1005, iP 972 fGo), (1008, iP 1009 (fAld 0)), (1009, iP 1010 fDup), (1010, iRI 1013 (gtI 83)), (1013, iP 1014 (fK (.inl 1))), (1014, iP 1015 (f2I (fun x y => x + y))), (1015, iW 1018 (ptI 83)), (1018, iP 1019 (fAld 0)), (1019, iRR 1022 (gtR 54)), (1022, iP 1024 (fIld 6)), (1024, iRI 1025 qAI), (1025, iP 1027 (fIst 5)), (1027, iP 1028 (fAld 0)), (1028, iP 1030 (fK (.inl 24))), (1030, iP 1032 (fIld 5)), (1032, iP 1033 (f2I (fun x y => x * y))), (1033, iW 1036 (ptI 78)), (1036, iP 1037 (fAld 0)), (1037, iP 1039 (fIld 7))] : List (Nat × AS)), SI X l 174 q.1 q.2 := List.forall_mem_cons.mpr ⟨
  s_iconst (show decode (cod 174) 969 = .ok (.iconst 0, 1) by decide +kernel) rfl, List.forall_mem_cons.mpr ⟨
  s_istore (k := 9) (show decode (cod 174) 970 = .ok (.istore 9, 2) by decide +kernel), List.forall_mem_cons.mpr ⟨
  s_iload (k := 9) (show decode (cod 174) 972 = .ok (.iload 9, 2) by decide +kernel), List.forall_mem_cons.mpr ⟨
  s_iconst (show decode (cod 174) 974 = .ok (.iconst 3, 1) by decide +kernel) rfl, List.forall_mem_cons.mpr ⟨
  s_icmpge (show decode (cod 174) 975 = .ok (.if_icmp .ge 33, 3) by decide +kernel) (by decide), List.forall_mem_cons.mpr ⟨
  s_aload_n (k := 0) (show decode (cod 174) 978 = .ok (.aload_n 0, 1) by decide +kernel), List.forall_mem_cons.mpr ⟨
  s_getR (show decode (cod 174) 979 = .ok (.getfield 94, 3) by decide +kernel) wd_635 (Or.inl rfl) rfl, List.forall_mem_cons.mpr ⟨
  s_bipush (show decode (cod 174) 982 = .ok (.bipush 7, 2) by decide +kernel) rfl, List.forall_mem_cons.mpr ⟨
  s_aload_n (k := 0) (show decode (cod 174) 984 = .ok (.aload_n 0, 1) by decide +kernel), List.forall_mem_cons.mpr ⟨
  s_getI (show decode (cod 174) 985 = .ok (.getfield 259, 3) by decide +kernel) wd_778 (Or.inl rfl) (Or.inl rfl), List.forall_mem_cons.mpr ⟨
  s_imul (show decode (cod 174) 988 = .ok (.imul, 1) by decide +kernel), List.forall_mem_cons.mpr ⟨
  s_iconst (show decode (cod 174) 989 = .ok (.iconst 3, 1) by decide +kernel) rfl, List.forall_mem_cons.mpr ⟨
  s_iadd (show decode (cod 174) 990 = .ok (.iadd, 1) by decide +kernel), List.forall_mem_cons.mpr ⟨
  s_iload (k := 9) (show decode (cod 174) 991 = .ok (.iload 9, 2) by decide +kernel), List.forall_mem_cons.mpr ⟨
  s_iadd (show decode (cod 174) 993 = .ok (.iadd, 1) by decide +kernel), List.forall_mem_cons.mpr ⟨
  s_aload_n (k := 0) (show decode (cod 174) 994 = .ok (.aload_n 0, 1) by decide +kernel), List.forall_mem_cons.mpr ⟨
  s_getR (show decode (cod 174) 995 = .ok (.getfield 76, 3) by decide +kernel) wd_629 (Or.inl rfl) rfl, List.forall_mem_cons.mpr ⟨
  s_iload (k := 9) (show decode (cod 174) 998 = .ok (.iload 9, 2) by decide +kernel), List.forall_mem_cons.mpr ⟨
  s_iaload (show decode (cod 174) 1000 = .ok (.iaload, 1) by decide +kernel), List.forall_mem_cons.mpr ⟨
  s_iastore (show decode (cod 174) 1001 = .ok (.iastore, 1) by decide +kernel), List.forall_mem_cons.mpr ⟨
  s_iinc (show decode (cod 174) 1002 = .ok (.iinc 9 1, 3) by decide +kernel) rfl, List.forall_mem_cons.mpr ⟨
  s_goto (show decode (cod 174) 1005 = .ok (.goto (-33), 3) by decide +kernel) (by decide), List.forall_mem_cons.mpr ⟨
  s_aload_n (k := 0) (show decode (cod 174) 1008 = .ok (.aload_n 0, 1) by decide +kernel), List.forall_mem_cons.mpr ⟨
  s_dup (show decode (cod 174) 1009 = .ok (.dup, 1) by decide +kernel), List.forall_mem_cons.mpr ⟨
  s_getI (show decode (cod 174) 1010 = .ok (.getfield 259, 3) by decide +kernel) wd_778 (Or.inl rfl) (Or.inl rfl), List.forall_mem_cons.mpr ⟨
  s_iconst (show decode (cod 174) 1013 = .ok (.iconst 1, 1) by decide +kernel) rfl, List.forall_mem_cons.mpr ⟨
  s_iadd (show decode (cod 174) 1014 = .ok (.iadd, 1) by decide +kernel), List.forall_mem_cons.mpr ⟨
  s_putI (show decode (cod 174) 1015 = .ok (.putfield 259, 3) by decide +kernel) wd_778 (Or.inl rfl) (Or.inl rfl) rfl, List.forall_mem_cons.mpr ⟨
  s_aload_n (k := 0) (show decode (cod 174) 1018 = .ok (.aload_n 0, 1) by decide +kernel), List.forall_mem_cons.mpr ⟨
  s_getR (show decode (cod 174) 1019 = .ok (.getfield 19, 3) by decide +kernel) wd_610 (Or.inl rfl) rfl, List.forall_mem_cons.mpr ⟨
  s_iload (k := 6) (show decode (cod 174) 1022 = .ok (.iload 6, 2) by decide +kernel), List.forall_mem_cons.mpr ⟨
  s_iaload (show decode (cod 174) 1024 = .ok (.iaload, 1) by decide +kernel), List.forall_mem_cons.mpr ⟨
  s_istore (k := 5) (show decode (cod 174) 1025 = .ok (.istore 5, 2) by decide +kernel), List.forall_mem_cons.mpr ⟨
  s_aload_n (k := 0) (show decode (cod 174) 1027 = .ok (.aload_n 0, 1) by decide +kernel), List.forall_mem_cons.mpr ⟨
  s_bipush (show decode (cod 174) 1028 = .ok (.bipush 24, 2) by decide +kernel) rfl, List.forall_mem_cons.mpr ⟨
  s_iload (k := 5) (show decode (cod 174) 1030 = .ok (.iload 5, 2) by decide +kernel), List.forall_mem_cons.mpr ⟨
  s_imul (show decode (cod 174) 1032 = .ok (.imul, 1) by decide +kernel), List.forall_mem_cons.mpr ⟨
  s_putI (show decode (cod 174) 1033 = .ok (.putfield 256, 3) by decide +kernel) wd_774 (Or.inl rfl) (Or.inl rfl) rfl, List.forall_mem_cons.mpr ⟨
  s_aload_n (k := 0) (show decode (cod 174) 1036 = .ok (.aload_n 0, 1) by decide +kernel), List.forall_mem_cons.mpr ⟨
  s_iload (k := 7) (show decode (cod 174) 1037 = .ok (.iload 7, 2) by decide +kernel), fun _ h => by cases h⟩⟩⟩⟩⟩⟩⟩⟩⟩⟩⟩⟩⟩⟩⟩⟩⟩⟩⟩⟩⟩⟩⟩⟩⟩⟩⟩⟩⟩⟩⟩⟩⟩⟩⟩⟩⟩⟩⟩⟩
set_option maxRecDepth 100000 in
set_option maxHeartbeats 4000000 in
theorem si174_14 (X : CX) (l : Launch) : ∀ q ∈ ([(1039, iW 1042 (ptI 79)), (1042, iP 1043 (fAld 0)), (1043, iP 1045 (fIld 8)), (1045, iW 1048 (ptI 80)), (1048, iP 1049 (fAld 0)), (1049, iP 1050 (fK (.inl 0))), (1050, iW 1053 (ptI 81)), (1053, iP 1056 fGo), (1056, iP 41 fGo), (1059, iP 1060 (fAld 0)), (1060, iRJ 1063 (gtJ 77)), (1063, iP 1064 fL2i), (1064, iRet rI)] : List (Nat × AS)), SI X l 174 q.1 q.2 := List.forall_mem_cons.mpr ⟨
  s_putI (show decode (cod 174) 1039 = .ok (.putfield 240, 3) by decide +kernel) wd_775 (Or.inl rfl) (Or.inl rfl) rfl, List.forall_mem_cons.mpr ⟨
  s_aload_n (k := 0) (show decode (cod 174) 1042 = .ok (.aload_n 0, 1) by decide +kernel), List.forall_mem_cons.mpr ⟨
  s_iload (k := 8) (show decode (cod 174) 1043 = .ok (.iload 8, 2) by decide +kernel), List.forall_mem_cons.mpr ⟨
  s_putI (show decode (cod 174) 1045 = .ok (.putfield 243, 3) by decide +kernel) wd_776 (Or.inl rfl) (Or.inl rfl) rfl, List.forall_mem_cons.mpr ⟨
  s_aload_n (k := 0) (show decode (cod 174) 1048 = .ok (.aload_n 0, 1) by decide +kernel), List.forall_mem_cons.mpr ⟨
  s_iconst (show decode (cod 174) 1049 = .ok (.iconst 0, 1) by decide +kernel) rfl, List.forall_mem_cons.mpr ⟨
  s_putI (show decode (cod 174) 1050 = .ok (.putfield 246, 3) by decide +kernel) wd_777 (Or.inl rfl) (Or.inl rfl) rfl, List.forall_mem_cons.mpr ⟨
  s_goto (show decode (cod 174) 1053 = .ok (.goto 3, 3) by decide +kernel) (by decide), List.forall_mem_cons.mpr ⟨
  s_goto (show decode (cod 174) 1056 = .ok (.goto (-1015), 3) by decide +kernel) (by decide), List.forall_mem_cons.mpr ⟨
  s_aload_n (k := 0) (show decode (cod 174) 1059 = .ok (.aload_n 0, 1) by decide +kernel), List.forall_mem_cons.mpr ⟨
  s_getJ (show decode (cod 174) 1060 = .ok (.getfield 252, 3) by decide +kernel) wd_773 (Or.inl rfl) rfl, List.forall_mem_cons.mpr ⟨
  s_l2i (show decode (cod 174) 1063 = .ok (.l2i, 1) by decide +kernel), List.forall_mem_cons.mpr ⟨
  s_ret (show decode (cod 174) 1064 = .ok (.ireturn, 1) by decide +kernel) rI_ok (fun h => by cases h), fun _ h => by cases h⟩⟩⟩⟩⟩⟩⟩⟩⟩⟩⟩⟩⟩
set_option maxRecDepth 100000 in
theorem si174 (X : CX) (l : Launch) : ∀ q ∈ pt174, SI X l 174 q.1 q.2 := (List.forall_mem_append (l₁ := _) (l₂ := _)).mpr ⟨si174_0 X l, (List.forall_mem_append (l₁ := _) (l₂ := _)).mpr ⟨si174_1 X l, (List.forall_mem_append (l₁ := _) (l₂ := _)).mpr ⟨si174_2 X l, (List.forall_mem_append (l₁ := _) (l₂ := _)).mpr ⟨si174_3 X l, (List.forall_mem_append (l₁ := _) (l₂ := _)).mpr ⟨si174_4 X l, (List.forall_mem_append (l₁ := _) (l₂ := _)).mpr ⟨si174_5 X l, (List.forall_mem_append (l₁ := _) (l₂ := _)).mpr ⟨si174_6 X l, (List.forall_mem_append (l₁ := _) (l₂ := _)).mpr ⟨si174_7 X l, (List.forall_mem_append (l₁ := _) (l₂ := _)).mpr ⟨si174_8 X l, (List.forall_mem_append (l₁ := _) (l₂ := _)).mpr ⟨si174_9 X l, (List.forall_mem_append (l₁ := _) (l₂ := _)).mpr ⟨si174_10 X l, (List.forall_mem_append (l₁ := _) (l₂ := _)).mpr ⟨si174_11 X l, (List.forall_mem_append (l₁ := _) (l₂ := _)).mpr ⟨si174_12 X l, (List.forall_mem_append (l₁ := _) (l₂ := _)).mpr ⟨si174_13 X l, si174_14 X l⟩⟩⟩⟩⟩⟩⟩⟩⟩⟩⟩⟩⟩⟩
set_option maxRecDepth 100000 in
set_option maxHeartbeats 4000000 in
theorem si175_0 (X : CX) (l : Launch) : ∀ q ∈ ([(0, iP 1 (fAld 0)), (1, iRR 4 (gtR 55)), (4, iP 6 (fK (.inl 12))), (6, iP 7 (fIld 1)), (7, iP 8 (f2I (fun x y => x * y))), (8, iP 10 (fK (.inl 6))), (10, iP 11 (fIld 2)), (11, iP 12 (f2I (fun x y => x * y))), (12, iP 13 (f2I (fun x y => x + y))), (13, iRI 14 qAI), (14, iP 15 (fAld 0)), (15, iRR 18 (gtR 55)), (18, iP 20 (fK (.inl 12))), (20, iP 21 (fIld 1)), (21, iP 22 (f2I (fun x y => x * y))), (22, iP 24 (fK (.inl 6))), (24, iP 25 (fIld 2)), (25, iP 26 (f2I (fun x y => x * y))), (26, iP 27 (f2I (fun x y => x + y))), (27, iP 28 (fK (.inl 1))), (28, iP 29 (f2I (fun x y => x + y))), (29, iRI 30 qAI), (30, iP 31 (fAld 0)), (31, iRI 34 (gtI 79)), (34, iP 35 (f2I (fun x y => x * y))), (35, iP 36 (f2I (fun x y => x + y))), (36, iP 37 (fAld 0)), (37, iRR 40 (gtR 55)), (40, iP 42 (fK (.inl 12))), (42, iP 43 (fIld 1)), (43, iP 44 (f2I (fun x y => x * y))), (44, iP 46 (fK (.inl 6))), (46, iP 47 (fIld 2)), (47, iP 48 (f2I (fun x y => x * y))), (48, iP 49 (f2I (fun x y => x + y))), (49, iP 50 (fK (.inl 2))), (50, iP 51 (f2I (fun x y => x + y))), (51, iRI 52 qAI), (52, iP 53 (fAld 0)), (53, iRI 56 (gtI 80))] : List (Nat × AS)), SI X l 175 q.1 q.2 := List.forall_mem_cons.mpr ⟨
  s_aload_n (k := 0) (show decode (cod 175) 0 = .ok (.aload_n 0, 1) by decide +kernel), List.forall_mem_cons.mpr ⟨
  s_getR (show decode (cod 175) 1 = .ok (.getfield 22, 3) by decide +kernel) wd_611 (Or.inl rfl) rfl, List.forall_mem_cons.mpr ⟨
  s_bipush (show decode (cod 175) 4 = .ok (.bipush 12, 2) by decide +kernel) rfl, List.forall_mem_cons.mpr ⟨
  s_iload_n (k := 1) (show decode (cod 175) 6 = .ok (.iload_n 1, 1) by decide +kernel), List.forall_mem_cons.mpr ⟨
  s_imul (show decode (cod 175) 7 = .ok (.imul, 1) by decide +kernel), List.forall_mem_cons.mpr ⟨
  s_bipush (show decode (cod 175) 8 = .ok (.bipush 6, 2) by decide +kernel) rfl, List.forall_mem_cons.mpr ⟨
  s_iload_n (k := 2) (show decode (cod 175) 10 = .ok (.iload_n 2, 1) by decide +kernel), List.forall_mem_cons.mpr ⟨
  s_imul (show decode (cod 175) 11 = .ok (.imul, 1) by decide +kernel), List.forall_mem_cons.mpr ⟨
  s_iadd (show decode (cod 175) 12 = .ok (.iadd, 1) by decide +kernel), List.forall_mem_cons.mpr ⟨
  s_iaload (show decode (cod 175) 13 = .ok (.iaload, 1) by decide +kernel), List.forall_mem_cons.mpr ⟨
  s_aload_n (k := 0) (show decode (cod 175) 14 = .ok (.aload_n 0, 1) by decide +kernel), List.forall_mem_cons.mpr ⟨
  s_getR (show decode (cod 175) 15 = .ok (.getfield 22, 3) by decide +kernel) wd_611 (Or.inl rfl) rfl, List.forall_mem_cons.mpr ⟨
  s_bipush (show decode (cod 175) 18 = .ok (.bipush 12, 2) by decide +kernel) rfl, List.forall_mem_cons.mpr ⟨
  s_iload_n (k := 1) (show decode (cod 175) 20 = .ok (.iload_n 1, 1) by decide +kernel), List.forall_mem_cons.mpr ⟨
  s_imul (show decode (cod 175) 21 = .ok (.imul, 1) by decide +kernel), List.forall_mem_cons.mpr ⟨
  s_bipush (show decode (cod 175) 22 = .ok (.bipush 6, 2) by decide +kernel) rfl, List.forall_mem_cons.mpr ⟨
  s_iload_n (k := 2) (show decode (cod 175) 24 = .ok (.iload_n 2, 1) by decide +kernel), List.forall_mem_cons.mpr ⟨
  s_imul (show decode (cod 175) 25 = .ok (.imul, 1) by decide +kernel), List.forall_mem_cons.mpr ⟨
  s_iadd (show decode (cod 175) 26 = .ok (.iadd, 1) by decide +kernel), List.forall_mem_cons.mpr ⟨
  s_iconst (show decode (cod 175) 27 = .ok (.iconst 1, 1) by decide +kernel) rfl, List.forall_mem_cons.mpr ⟨
  s_iadd (show decode (cod 175) 28 = .ok (.iadd, 1) by decide +kernel), List.forall_mem_cons.mpr ⟨
  s_iaload (show decode (cod 175) 29 = .ok (.iaload, 1) by decide +kernel), List.forall_mem_cons.mpr ⟨
  s_aload_n (k := 0) (show decode (cod 175) 30 = .ok (.aload_n 0, 1) by decide +kernel), List.forall_mem_cons.mpr ⟨
  s_getI (show decode (cod 175) 31 = .ok (.getfield 240, 3) by decide +kernel) wd_775 (Or.inl rfl) (Or.inl rfl), List.forall_mem_cons.mpr ⟨
  s_imul (show decode (cod 175) 34 = .ok (.imul, 1) by decide +kernel), List.forall_mem_cons.mpr ⟨
  s_iadd (show decode (cod 175) 35 = .ok (.iadd, 1) by decide +kernel), List.forall_mem_cons.mpr ⟨
  s_aload_n (k := 0) (show decode (cod 175) 36 = .ok (.aload_n 0, 1) by decide +kernel), List.forall_mem_cons.mpr ⟨
  s_getR (show decode (cod 175) 37 = .ok (.getfield 22, 3) by decide +kernel) wd_611 (Or.inl rfl) rfl, List.forall_mem_cons.mpr ⟨
  s_bipush (show decode (cod 175) 40 = .ok (.bipush 12, 2) by decide +kernel) rfl, List.forall_mem_cons.mpr ⟨
  s_iload_n (k := 1) (show decode (cod 175) 42 = .ok (.iload_n 1, 1) by decide +kernel), List.forall_mem_cons.mpr ⟨
  s_imul (show decode (cod 175) 43 = .ok (.imul, 1) by decide +kernel), List.forall_mem_cons.mpr ⟨
  s_bipush (show decode (cod 175) 44 = .ok (.bipush 6, 2) by decide +kernel) rfl, List.forall_mem_cons.mpr ⟨
  s_iload_n (k := 2) (show decode (cod 175) 46 = .ok (.iload_n 2, 1) by decide +kernel), List.forall_mem_cons.mpr ⟨
  s_imul (show decode (cod 175) 47 = .ok (.imul, 1) by decide +kernel), List.forall_mem_cons.mpr ⟨
  s_iadd (show decode (cod 175) 48 = .ok (.iadd, 1) by decide +kernel), List.forall_mem_cons.mpr ⟨
  s_iconst (show decode (cod 175) 49 = .ok (.iconst 2, 1) by decide +kernel) rfl, List.forall_mem_cons.mpr ⟨
  s_iadd (show decode (cod 175) 50 = .ok (.iadd, 1) by decide +kernel), List.forall_mem_cons.mpr ⟨
  s_iaload (show decode (cod 175) 51 = .ok (.iaload, 1) by decide +kernel), List.forall_mem_cons.mpr ⟨
  s_aload_n (k := 0) (show decode (cod 175) 52 = .ok (.aload_n 0, 1) by decide +kernel), List.forall_mem_cons.mpr ⟨
  s_getI (show decode (cod 175) 53 = .ok (.getfield 243, 3) by decide +kernel) wd_776 (Or.inl rfl) (Or.inl rfl), fun _ h => by cases h⟩⟩⟩⟩⟩⟩⟩⟩⟩⟩⟩⟩⟩⟩⟩⟩⟩⟩⟩⟩⟩⟩⟩⟩⟩⟩⟩⟩⟩⟩⟩⟩⟩⟩⟩⟩⟩⟩⟩⟩
set_option maxRecDepth 100000 in
set_option maxHeartbeats 4000000 in
theorem si175_1 (X : CX) (l : Launch) : ∀ q ∈ ([(56, iP 57 (f2I (fun x y => x * y))), (57, iP 58 (f2I (fun x y => x + y))), (58, iP 59 (fIst 3)), (59, iP 60 (fK (.inl 0))), (60, iP 62 (fIst 4)), (62, iP 64 (fIld 4)), (64, iP 65 (fAld 0)), (65, iRI 68 (gtI 81)), (68, iB 71 107 (b2 (fun x y => decide (y ≤ x)))), (71, iP 72 (fIld 3)), (72, iP 73 (fAld 0)), (73, iRR 76 (gtR 55)), (76, iP 78 (fK (.inl 12))), (78, iP 79 (fIld 1)), (79, iP 80 (f2I (fun x y => x * y))), (80, iP 82 (fK (.inl 6))), (82, iP 83 (fIld 2)), (83, iP 84 (f2I (fun x y => x * y))), (84, iP 85 (f2I (fun x y => x + y))), (85, iP 86 (fK (.inl 3))), (86, iP 87 (f2I (fun x y => x + y))), (87, iP 89 (fIld 4)), (89, iP 90 (f2I (fun x y => x + y))), (90, iRI 91 qAI), (91, iP 92 (fAld 0)), (92, iRR 95 (gtR 82)), (95, iP 97 (fIld 4)), (97, iRI 98 qAI), (98, iP 99 (f2I (fun x y => x * y))), (99, iP 100 (f2I (fun x y => x + y))), (100, iP 101 (fIst 3)), (101, iP 104 (fInc 4 1)), (104, iP 62 fGo), (107, iP 108 (fIld 3)), (108, iRet rI)] : List (Nat × AS)), SI X l 175 q.1 q.2 := List.forall_mem_cons.mpr ⟨
  s_imul (show decode (cod 175) 56 = .ok (.imul, 1) by decide +kernel), List.forall_mem_cons.mpr ⟨
  s_iadd (show decode (cod 175) 57 = .ok (.iadd, 1) by decide +kernel), List.forall_mem_cons.mpr ⟨
  s_istore_n (k := 3) (show decode (cod 175) 58 = .ok (.istore_n 3, 1) by decide +kernel), List.forall_mem_cons.mpr ⟨
  s_iconst (show decode (cod 175) 59 = .ok (.iconst 0, 1) by decide +kernel) rfl, List.forall_mem_cons.mpr ⟨
  s_istore (k := 4) (show decode (cod 175) 60 = .ok (.istore 4, 2) by decide +kernel), List.forall_mem_cons.mpr ⟨
  s_iload (k := 4) (show decode (cod 175) 62 = .ok (.iload 4, 2) by decide +kernel), List.forall_mem_cons.mpr ⟨
  s_aload_n (k := 0) (show decode (cod 175) 64 = .ok (.aload_n 0, 1) by decide +kernel), List.forall_mem_cons.mpr ⟨
  s_getI (show decode (cod 175) 65 = .ok (.getfield 246, 3) by decide +kernel) wd_777 (Or.inl rfl) (Or.inl rfl), List.forall_mem_cons.mpr ⟨
  s_icmpge (show decode (cod 175) 68 = .ok (.if_icmp .ge 39, 3) by decide +kernel) (by decide), List.forall_mem_cons.mpr ⟨
  s_iload_n (k := 3) (show decode (cod 175) 71 = .ok (.iload_n 3, 1) by decide +kernel), List.forall_mem_cons.mpr ⟨
  s_aload_n (k := 0) (show decode (cod 175) 72 = .ok (.aload_n 0, 1) by decide +kernel), List.forall_mem_cons.mpr ⟨
  s_getR (show decode (cod 175) 73 = .ok (.getfield 22, 3) by decide +kernel) wd_611 (Or.inl rfl) rfl, List.forall_mem_cons.mpr ⟨
  s_bipush (show decode (cod 175) 76 = .ok (.bipush 12, 2) by decide +kernel) rfl, List.forall_mem_cons.mpr ⟨
  s_iload_n (k := 1) (show decode (cod 175) 78 = .ok (.iload_n 1, 1) by decide +kernel), List.forall_mem_cons.mpr ⟨
  s_imul (show decode (cod 175) 79 = .ok (.imul, 1) by decide +kernel), List.forall_mem_cons.mpr ⟨
  s_bipush (show decode (cod 175) 80 = .ok (.bipush 6, 2) by decide +kernel) rfl, List.forall_mem_cons.mpr ⟨
  s_iload_n (k := 2) (show decode (cod 175) 82 = .ok (.iload_n 2, 1) by decide +kernel), List.forall_mem_cons.mpr ⟨
  s_imul (show decode (cod 175) 83 = .ok (.imul, 1) by decide +kernel), List.forall_mem_cons.mpr ⟨
  s_iadd (show decode (cod 175) 84 = .ok (.iadd, 1) by decide +kernel), List.forall_mem_cons.mpr ⟨
  s_iconst (show decode (cod 175) 85 = .ok (.iconst 3, 1) by decide +kernel) rfl, List.forall_mem_cons.mpr ⟨
  s_iadd (show decode (cod 175) 86 = .ok (.iadd, 1) by decide +kernel), List.forall_mem_cons.mpr ⟨
  s_iload (k := 4) (show decode (cod 175) 87 = .ok (.iload 4, 2) by decide +kernel), List.forall_mem_cons.mpr ⟨
  s_iadd (show decode (cod 175) 89 = .ok (.iadd, 1) by decide +kernel), List.forall_mem_cons.mpr ⟨
  s_iaload (show decode (cod 175) 90 = .ok (.iaload, 1) by decide +kernel), List.forall_mem_cons.mpr ⟨
  s_aload_n (k := 0) (show decode (cod 175) 91 = .ok (.aload_n 0, 1) by decide +kernel), List.forall_mem_cons.mpr ⟨
  s_getR (show decode (cod 175) 92 = .ok (.getfield 76, 3) by decide +kernel) wd_629 (Or.inl rfl) rfl, List.forall_mem_cons.mpr ⟨
  s_iload (k := 4) (show decode (cod 175) 95 = .ok (.iload 4, 2) by decide +kernel), List.forall_mem_cons.mpr ⟨
  s_iaload (show decode (cod 175) 97 = .ok (.iaload, 1) by decide +kernel), List.forall_mem_cons.mpr ⟨
  s_imul (show decode (cod 175) 98 = .ok (.imul, 1) by decide +kernel), List.forall_mem_cons.mpr ⟨
  s_iadd (show decode (cod 175) 99 = .ok (.iadd, 1) by decide +kernel), List.forall_mem_cons.mpr ⟨
  s_istore_n (k := 3) (show decode (cod 175) 100 = .ok (.istore_n 3, 1) by decide +kernel), List.forall_mem_cons.mpr ⟨
  s_iinc (show decode (cod 175) 101 = .ok (.iinc 4 1, 3) by decide +kernel) rfl, List.forall_mem_cons.mpr ⟨
  s_goto (show decode (cod 175) 104 = .ok (.goto (-42), 3) by decide +kernel) (by decide), List.forall_mem_cons.mpr ⟨
  s_iload_n (k := 3) (show decode (cod 175) 107 = .ok (.iload_n 3, 1) by decide +kernel), List.forall_mem_cons.mpr ⟨
  s_ret (show decode (cod 175) 108 = .ok (.ireturn, 1) by decide +kernel) rI_ok (fun h => by cases h), fun _ h => by cases h⟩⟩⟩⟩⟩⟩⟩⟩⟩⟩⟩⟩⟩⟩⟩⟩⟩⟩⟩⟩⟩⟩⟩⟩⟩⟩⟩⟩⟩⟩⟩⟩⟩⟩⟩
set_option maxRecDepth 100000 in
theorem si175 (X : CX) (l : Launch) : ∀ q ∈ pt175, SI X l 175 q.1 q.2 := (List.forall_mem_append (l₁ := _) (l₂ := _)).mpr ⟨si175_0 X l, si175_1 X l⟩
set_option maxRecDepth 100000 in
set_option maxHeartbeats 4000000 in
theorem si176_0 (X : CX) (l : Launch) : ∀ q ∈ ([(0, iP 1 (fK (.inl 0))), (1, iP 2 (fIst 3)), (2, iP 3 (fIld 1)), (3, iP 4 (fK (.inl 1))), (4, iP 5 (f2I (fun x y => x + y))), (5, iP 7 (fIst 4)), (7, iP 8 (fIld 3)), (8, iB 11 22 (b1 (fun x => decide (0 < x)))), (11, iP 12 (fAld 0)), (12, iRR 15 (gtR 52)), (15, iP 17 (fIld 4)), (17, iRI 18 qAI), (18, iP 19 (fIld 2)), (19, iB 22 86 (b2 (fun x y => decide (x = y)))), (22, iP 23 (fIld 3)), (23, iP 24 (fAld 0)), (24, iRR 27 (gtR 52)), (27, iP 29 (fIld 4)), (29, iRI 30 qAI), (30, iP 31 (fK (.inl 3))), (31, iB 34 45 (b2 (fun x y => decide (x = y)))), (34, iP 35 (fAld 0)), (35, iRR 38 (gtR 52)), (38, iP 40 (fIld 4)), (40, iRI 41 qAI), (41, iP 42 (fK (.inl 5))), (42, iB 45 49 (b2 (fun x y => decide (x ≠ y)))), (45, iP 46 (fK (.inl 1))), (46, iP 78 fGo), (49, iP 50 (fAld 0)), (50, iRR 53 (gtR 52)), (53, iP 55 (fIld 4)), (55, iRI 56 qAI), (56, iP 58 (fK (.inl 6))), (58, iB 61 73 (b2 (fun x y => decide (x = y)))), (61, iP 62 (fAld 0)), (62, iRR 65 (gtR 52)), (65, iP 67 (fIld 4)), (67, iRI 68 qAI), (68, iP 70 (fK (.inl 8)))] : List (Nat × AS)), SI X l 176 q.1 q.2 := List.forall_mem_cons.mpr ⟨
  s_iconst (show decode (cod 176) 0 = .ok (.iconst 0, 1) by decide +kernel) rfl, List.forall_mem_cons.mpr ⟨
  s_istore_n (k := 3) (show decode (cod 176) 1 = .ok (.istore_n 3, 1) by decide +kernel), List.forall_mem_cons.mpr ⟨
  s_iload_n (k := 1) (show decode (cod 176) 2 = .ok (.iload_n 1, 1) by decide +kernel), List.forall_mem_cons.mpr ⟨
  s_iconst (show decode (cod 176) 3 = .ok (.iconst 1, 1) by decide +kernel) rfl, List.forall_mem_cons.mpr ⟨
  s_iadd (show decode (cod 176) 4 = .ok (.iadd, 1) by decide +kernel), List.forall_mem_cons.mpr ⟨
  s_istore (k := 4) (show decode (cod 176) 5 = .ok (.istore 4, 2) by decide +kernel), List.forall_mem_cons.mpr ⟨
  s_iload_n (k := 3) (show decode (cod 176) 7 = .ok (.iload_n 3, 1) by decide +kernel), List.forall_mem_cons.mpr ⟨
  s_ifgt (show decode (cod 176) 8 = .ok (.ifCond .gt 14, 3) by decide +kernel) (by decide), List.forall_mem_cons.mpr ⟨
  s_aload_n (k := 0) (show decode (cod 176) 11 = .ok (.aload_n 0, 1) by decide +kernel), List.forall_mem_cons.mpr ⟨
  s_getR (show decode (cod 176) 12 = .ok (.getfield 13, 3) by decide +kernel) wd_608 (Or.inl rfl) rfl, List.forall_mem_cons.mpr ⟨
  s_iload (k := 4) (show decode (cod 176) 15 = .ok (.iload 4, 2) by decide +kernel), List.forall_mem_cons.mpr ⟨
  s_iaload (show decode (cod 176) 17 = .ok (.iaload, 1) by decide +kernel), List.forall_mem_cons.mpr ⟨
  s_iload_n (k := 2) (show decode (cod 176) 18 = .ok (.iload_n 2, 1) by decide +kernel), List.forall_mem_cons.mpr ⟨
  s_icmpeq (show decode (cod 176) 19 = .ok (.if_icmp .eq 67, 3) by decide +kernel) (by decide), List.forall_mem_cons.mpr ⟨
  s_iload_n (k := 3) (show decode (cod 176) 22 = .ok (.iload_n 3, 1) by decide +kernel), List.forall_mem_cons.mpr ⟨
  s_aload_n (k := 0) (show decode (cod 176) 23 = .ok (.aload_n 0, 1) by decide +kernel), List.forall_mem_cons.mpr ⟨
  s_getR (show decode (cod 176) 24 = .ok (.getfield 13, 3) by decide +kernel) wd_608 (Or.inl rfl) rfl, List.forall_mem_cons.mpr ⟨
  s_iload (k := 4) (show decode (cod 176) 27 = .ok (.iload 4, 2) by decide +kernel), List.forall_mem_cons.mpr ⟨
  s_iaload (show decode (cod 176) 29 = .ok (.iaload, 1) by decide +kernel), List.forall_mem_cons.mpr ⟨
  s_iconst (show decode (cod 176) 30 = .ok (.iconst 3, 1) by decide +kernel) rfl, List.forall_mem_cons.mpr ⟨
  s_icmpeq (show decode (cod 176) 31 = .ok (.if_icmp .eq 14, 3) by decide +kernel) (by decide), List.forall_mem_cons.mpr ⟨
  s_aload_n (k := 0) (show decode (cod 176) 34 = .ok (.aload_n 0, 1) by decide +kernel), List.forall_mem_cons.mpr ⟨
  s_getR (show decode (cod 176) 35 = .ok (.getfield 13, 3) by decide +kernel) wd_608 (Or.inl rfl) rfl, List.forall_mem_cons.mpr ⟨
  s_iload (k := 4) (show decode (cod 176) 38 = .ok (.iload 4, 2) by decide +kernel), List.forall_mem_cons.mpr ⟨
  s_iaload (show decode (cod 176) 40 = .ok (.iaload, 1) by decide +kernel), List.forall_mem_cons.mpr ⟨
  s_iconst (show decode (cod 176) 41 = .ok (.iconst 5, 1) by decide +kernel) rfl, List.forall_mem_cons.mpr ⟨
  s_icmpne (show decode (cod 176) 42 = .ok (.if_icmp .ne 7, 3) by decide +kernel) (by decide), List.forall_mem_cons.mpr ⟨
  s_iconst (show decode (cod 176) 45 = .ok (.iconst 1, 1) by decide +kernel) rfl, List.forall_mem_cons.mpr ⟨
  s_goto (show decode (cod 176) 46 = .ok (.goto 32, 3) by decide +kernel) (by decide), List.forall_mem_cons.mpr ⟨
  s_aload_n (k := 0) (show decode (cod 176) 49 = .ok (.aload_n 0, 1) by decide +kernel), List.forall_mem_cons.mpr ⟨
  s_getR (show decode (cod 176) 50 = .ok (.getfield 13, 3) by decide +kernel) wd_608 (Or.inl rfl) rfl, List.forall_mem_cons.mpr ⟨
  s_iload (k := 4) (show decode (cod 176) 53 = .ok (.iload 4, 2) by decide +kernel), List.forall_mem_cons.mpr ⟨
  s_iaload (show decode (cod 176) 55 = .ok (.iaload, 1) by decide +kernel), List.forall_mem_cons.mpr ⟨
  s_bipush (show decode (cod 176) 56 = .ok (.bipush 6, 2) by decide +kernel) rfl, List.forall_mem_cons.mpr ⟨
  s_icmpeq (show decode (cod 176) 58 = .ok (.if_icmp .eq 15, 3) by decide +kernel) (by decide), List.forall_mem_cons.mpr ⟨
  s_aload_n (k := 0) (show decode (cod 176) 61 = .ok (.aload_n 0, 1) by decide +kernel), List.forall_mem_cons.mpr ⟨
  s_getR (show decode (cod 176) 62 = .ok (.getfield 13, 3) by decide +kernel) wd_608 (Or.inl rfl) rfl, List.forall_mem_cons.mpr ⟨
  s_iload (k := 4) (show decode (cod 176) 65 = .ok (.iload 4, 2) by decide +kernel), List.forall_mem_cons.mpr ⟨
  s_iaload (show decode (cod 176) 67 = .ok (.iaload, 1) by decide +kernel), List.forall_mem_cons.mpr ⟨
  s_bipush (show decode (cod 176) 68 = .ok (.bipush 8, 2) by decide +kernel) rfl, fun _ h => by cases h⟩⟩⟩⟩⟩⟩⟩⟩⟩⟩⟩⟩⟩⟩⟩⟩⟩⟩⟩⟩⟩⟩⟩⟩⟩⟩⟩⟩⟩⟩⟩⟩⟩⟩⟩⟩⟩⟩⟩⟩
set_option maxRecDepth 100000 in
set_option maxHeartbeats 4000000 in
theorem si176_1 (X : CX) (l : Launch) : ∀ q ∈ ([(70, iB 73 77 (b2 (fun x y => decide (x ≠ y)))), (73, iP 74 (fK (.inl (-1)))), (74, iP 78 fGo), (77, iP 78 (fK (.inl 0))), (78, iP 79 (f2I (fun x y => x + y))), (79, iP 80 (fIst 3)), (80, iP 83 (fInc 4 1)), (83, iP 7 fGo), (86, iP 88 (fIld 4)), (88, iRet rI)] : List (Nat × AS)), SI X l 176 q.1 q.2 := List.forall_mem_cons.mpr ⟨
  s_icmpne (show decode (cod 176) 70 = .ok (.if_icmp .ne 7, 3) by decide +kernel) (by decide), List.forall_mem_cons.mpr ⟨
  s_iconst (show decode (cod 176) 73 = .ok (.iconst (-1), 1) by decide +kernel) rfl, List.forall_mem_cons.mpr ⟨
  s_goto (show decode (cod 176) 74 = .ok (.goto 4, 3) by decide +kernel) (by decide), List.forall_mem_cons.mpr ⟨
  s_iconst (show decode (cod 176) 77 = .ok (.iconst 0, 1) by decide +kernel) rfl, List.forall_mem_cons.mpr ⟨
  s_iadd (show decode (cod 176) 78 = .ok (.iadd, 1) by decide +kernel), List.forall_mem_cons.mpr ⟨
  s_istore_n (k := 3) (show decode (cod 176) 79 = .ok (.istore_n 3, 1) by decide +kernel), List.forall_mem_cons.mpr ⟨
  s_iinc (show decode (cod 176) 80 = .ok (.iinc 4 1, 3) by decide +kernel) rfl, List.forall_mem_cons.mpr ⟨
  s_goto (show decode (cod 176) 83 = .ok (.goto (-76), 3) by decide +kernel) (by decide), List.forall_mem_cons.mpr ⟨
  s_iload (k := 4) (show decode (cod 176) 86 = .ok (.iload 4, 2) by decide +kernel), List.forall_mem_cons.mpr ⟨
  s_ret (show decode (cod 176) 88 = .ok (.ireturn, 1) by decide +kernel) rI_ok (fun h => by cases h), fun _ h => by cases h⟩⟩⟩⟩⟩⟩⟩⟩⟩⟩
set_option maxRecDepth 100000 in
theorem si176 (X : CX) (l : Launch) : ∀ q ∈ pt176, SI X l 176 q.1 q.2 := (List.forall_mem_append (l₁ := _) (l₂ := _)).mpr ⟨si176_0 X l, si176_1 X l⟩
set_option maxRecDepth 100000 in
set_option maxHeartbeats 4000000 in
theorem si177_0 (X : CX) (l : Launch) : ∀ q ∈ ([(0, iP 1 (fAld 0)), (1, iP 2 fDup), (2, iRI 5 (gtI 76)), (5, iP 6 (fK (.inl 1))), (6, iP 7 (f2I (fun x y => x + y))), (7, iW 10 (ptI 76)), (10, iP 11 (fAld 0)), (11, iRI 14 (gtI 76)), (14, iP 17 (fK (.inl 20000))), (17, iB 20 24 (b2 (fun x y => decide (y < x)))), (20, iP 21 (fK (.inl 1))), (21, iP 25 fGo), (24, iP 25 (fK (.inl 0))), (25, iRet rZ)] : List (Nat × AS)), SI X l 177 q.1 q.2 := List.forall_mem_cons.mpr ⟨
  s_aload_n (k := 0) (show decode (cod 177) 0 = .ok (.aload_n 0, 1) by decide +kernel), List.forall_mem_cons.mpr ⟨
  s_dup (show decode (cod 177) 1 = .ok (.dup, 1) by decide +kernel), List.forall_mem_cons.mpr ⟨
  s_getI (show decode (cod 177) 2 = .ok (.getfield 249, 3) by decide +kernel) wd_772 (Or.inl rfl) (Or.inl rfl), List.forall_mem_cons.mpr ⟨
  s_iconst (show decode (cod 177) 5 = .ok (.iconst 1, 1) by decide +kernel) rfl, List.forall_mem_cons.mpr ⟨
  s_iadd (show decode (cod 177) 6 = .ok (.iadd, 1) by decide +kernel), List.forall_mem_cons.mpr ⟨
  s_putI (show decode (cod 177) 7 = .ok (.putfield 249, 3) by decide +kernel) wd_772 (Or.inl rfl) (Or.inl rfl) rfl, List.forall_mem_cons.mpr ⟨
  s_aload_n (k := 0) (show decode (cod 177) 10 = .ok (.aload_n 0, 1) by decide +kernel), List.forall_mem_cons.mpr ⟨
  s_getI (show decode (cod 177) 11 = .ok (.getfield 249, 3) by decide +kernel) wd_772 (Or.inl rfl) (Or.inl rfl), List.forall_mem_cons.mpr ⟨
  s_sipush (show decode (cod 177) 14 = .ok (.sipush 20000, 3) by decide +kernel) rfl, List.forall_mem_cons.mpr ⟨
  s_icmpgt (show decode (cod 177) 17 = .ok (.if_icmp .gt 7, 3) by decide +kernel) (by decide), List.forall_mem_cons.mpr ⟨
  s_iconst (show decode (cod 177) 20 = .ok (.iconst 1, 1) by decide +kernel) rfl, List.forall_mem_cons.mpr ⟨
  s_goto (show decode (cod 177) 21 = .ok (.goto 4, 3) by decide +kernel) (by decide), List.forall_mem_cons.mpr ⟨
  s_iconst (show decode (cod 177) 24 = .ok (.iconst 0, 1) by decide +kernel) rfl, List.forall_mem_cons.mpr ⟨
  s_ret (show decode (cod 177) 25 = .ok (.ireturn, 1) by decide +kernel) rZ_ok (fun _ => rZ_b), fun _ h => by cases h⟩⟩⟩⟩⟩⟩⟩⟩⟩⟩⟩⟩⟩⟩
set_option maxRecDepth 100000 in
theorem si177 (X : CX) (l : Launch) : ∀ q ∈ pt177, SI X l 177 q.1 q.2 :=  si177_0 X l
