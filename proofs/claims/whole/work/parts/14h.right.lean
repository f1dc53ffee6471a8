set_option maxRecDepth 100000 in
set_option maxHeartbeats 4000000 in
theorem si178_0 (X : CX) (l : Launch) : ∀ q ∈ ([(0, iP 1 (fAld 0)), (1, iP 2 (fIld 1)), (2, iW 5 (ptI 57)), (5, iP 6 (fK (.inl 1))), (6, iRet rI)] : List (Nat × AS)), SI X l 178 q.1 q.2 := List.forall_mem_cons.mpr ⟨
  s_aload_n (k := 0) (show decode (cod 178) 0 = .ok (.aload_n 0, 1) by decide +kernel), List.forall_mem_cons.mpr ⟨
  s_iload_n (k := 1) (show decode (cod 178) 1 = .ok (.iload_n 1, 1) by decide +kernel), List.forall_mem_cons.mpr ⟨
  s_putI (show decode (cod 178) 2 = .ok (.putfield 28, 3) by decide +kernel) wd_613 (Or.inl rfl) (Or.inl rfl) rfl, List.forall_mem_cons.mpr ⟨
  s_iconst (show decode (cod 178) 5 = .ok (.iconst 1, 1) by decide +kernel) rfl, List.forall_mem_cons.mpr ⟨
  s_ret (show decode (cod 178) 6 = .ok (.ireturn, 1) by decide +kernel) rI_ok (fun h => by cases h), fun _ h => by cases h⟩⟩⟩⟩⟩
set_option maxRecDepth 100000 in
theorem si178 (X : CX) (l : Launch) : ∀ q ∈ pt178, SI X l 178 q.1 q.2 :=  si178_0 X l
set_option maxRecDepth 100000 in
set_option maxHeartbeats 4000000 in
theorem si179_0 (X : CX) (l : Launch) : ∀ q ∈ ([(0, iP 1 (fAld 0)), (1, iP 2 (fIld 1)), (2, iCK 5 12 132 2 2 1), (5, iB 8 21 (b1 (fun x => decide (x = 0)))), (8, iP 9 (fIld 2)), (9, iP 10 (fIld 3)), (10, iC 13 169 2 2 1), (13, iB 16 21 (b1 (fun x => decide (x = 0)))), (16, iP 18 (fIld 4)), (18, iB 21 24 (b1 (fun x => decide (0 ≤ x)))), (21, iP 23 (fK (.inl (-1000001)))), (23, iRet rI), (24, iP 25 (fAld 0)), (25, iP 26 (fIld 1)), (26, iP 27 (fK (.inl 1))), (27, iCK 30 12 152 3 3 1), (30, iP 32 (fIst 5)), (32, iP 34 (fIld 5)), (34, iB 37 40 (b1 (fun x => decide (x = 0)))), (37, iP 39 (fIld 5)), (39, iRet rI), (40, iP 41 (fAld 0)), (41, iP 42 (fIld 1)), (42, iP 43 (fK (.inl 1))), (43, iP 44 (fIld 2)), (44, iP 45 (fIld 3)), (45, iCK 48 12 170 13 5 2), (48, iP 50 (fIld 4)), (50, iP 51 fI2l), (51, iP 52 fLcmp), (52, iB 55 60 (b1 (fun x => decide (x ≤ 0)))), (55, iP 57 (fK (.inl (-1000000)))), (57, iP 68 fGo), (60, iP 61 (fAld 0)), (61, iP 62 (fIld 1)), (62, iP 63 (fIld 2)), (63, iP 64 (fIld 3)), (64, iP 65 (fK (.inl 2))), (65, iCK 68 12 174 10 5 1), (68, iRet rI)] : List (Nat × AS)), SI X l 179 q.1 q.2 := List.forall_mem_cons.mpr ⟨
  s_aload_n (k := 0) (show decode (cod 179) 0 = .ok (.aload_n 0, 1) by decide +kernel), List.forall_mem_cons.mpr ⟨
  s_iload_n (k := 1) (show decode (cod 179) 1 = .ok (.iload_n 1, 1) by decide +kernel), List.forall_mem_cons.mpr ⟨
  s_invK rfl (rcv_virt (show decode (cod 179) 2 = .ok (.invokevirtual 118, 3) by decide +kernel) cld_179_132 ⟨11, _, _, rfl, by decide, rfl⟩ wd_646 wd_647 wd_648), List.forall_mem_cons.mpr ⟨
  s_ifeq (show decode (cod 179) 5 = .ok (.ifCond .eq 16, 3) by decide +kernel) (by decide), List.forall_mem_cons.mpr ⟨
  s_iload_n (k := 2) (show decode (cod 179) 8 = .ok (.iload_n 2, 1) by decide +kernel), List.forall_mem_cons.mpr ⟨
  s_iload_n (k := 3) (show decode (cod 179) 9 = .ok (.iload_n 3, 1) by decide +kernel), List.forall_mem_cons.mpr ⟨
  s_invS (show decode (cod 179) 10 = .ok (.invokestatic 230, 3) by decide +kernel) rfl cld_179_169 wd_755 wd_756, List.forall_mem_cons.mpr ⟨
  s_ifeq (show decode (cod 179) 13 = .ok (.ifCond .eq 8, 3) by decide +kernel) (by decide), List.forall_mem_cons.mpr ⟨
  s_iload (k := 4) (show decode (cod 179) 16 = .ok (.iload 4, 2) by decide +kernel), List.forall_mem_cons.mpr ⟨
  s_ifge (show decode (cod 179) 18 = .ok (.ifCond .ge 6, 3) by decide +kernel) (by decide), List.forall_mem_cons.mpr ⟨
  s_ldc (show decode (cod 179) 21 = .ok (.ldc 111, 2) by decide +kernel) wd_644, List.forall_mem_cons.mpr ⟨
  s_ret (show decode (cod 179) 23 = .ok (.ireturn, 1) by decide +kernel) rI_ok (fun h => by cases h), List.forall_mem_cons.mpr ⟨
  s_aload_n (k := 0) (show decode (cod 179) 24 = .ok (.aload_n 0, 1) by decide +kernel), List.forall_mem_cons.mpr ⟨
  s_iload_n (k := 1) (show decode (cod 179) 25 = .ok (.iload_n 1, 1) by decide +kernel), List.forall_mem_cons.mpr ⟨
  s_iconst (show decode (cod 179) 26 = .ok (.iconst 1, 1) by decide +kernel) rfl, List.forall_mem_cons.mpr ⟨
  s_invK rfl (rcv_virt (show decode (cod 179) 27 = .ok (.invokevirtual 209, 3) by decide +kernel) cld_179_152 ⟨11, _, _, rfl, by decide, rfl⟩ wd_691 wd_692 wd_693), List.forall_mem_cons.mpr ⟨
  s_istore (k := 5) (show decode (cod 179) 30 = .ok (.istore 5, 2) by decide +kernel), List.forall_mem_cons.mpr ⟨
  s_iload (k := 5) (show decode (cod 179) 32 = .ok (.iload 5, 2) by decide +kernel), List.forall_mem_cons.mpr ⟨
  s_ifeq (show decode (cod 179) 34 = .ok (.ifCond .eq 6, 3) by decide +kernel) (by decide), List.forall_mem_cons.mpr ⟨
  s_iload (k := 5) (show decode (cod 179) 37 = .ok (.iload 5, 2) by decide +kernel), List.forall_mem_cons.mpr ⟨
  s_ret (show decode (cod 179) 39 = .ok (.ireturn, 1) by decide +kernel) rI_ok (fun h => by cases h), List.forall_mem_cons.mpr ⟨
  s_aload_n (k := 0) (show decode (cod 179) 40 = .ok (.aload_n 0, 1) by decide +kernel), List.forall_mem_cons.mpr ⟨
  s_iload_n (k := 1) (show decode (cod 179) 41 = .ok (.iload_n 1, 1) by decide +kernel), List.forall_mem_cons.mpr ⟨
  s_iconst (show decode (cod 179) 42 = .ok (.iconst 1, 1) by decide +kernel) rfl, List.forall_mem_cons.mpr ⟨
  s_iload_n (k := 2) (show decode (cod 179) 43 = .ok (.iload_n 2, 1) by decide +kernel), List.forall_mem_cons.mpr ⟨
  s_iload_n (k := 3) (show decode (cod 179) 44 = .ok (.iload_n 3, 1) by decide +kernel), List.forall_mem_cons.mpr ⟨
  s_invK rfl (rcv_virt (show decode (cod 179) 45 = .ok (.invokevirtual 233, 3) by decide +kernel) cld_179_170 ⟨11, _, _, rfl, by decide, rfl⟩ wd_758 wd_759 wd_760), List.forall_mem_cons.mpr ⟨
  s_iload (k := 4) (show decode (cod 179) 48 = .ok (.iload 4, 2) by decide +kernel), List.forall_mem_cons.mpr ⟨
  s_i2l (show decode (cod 179) 50 = .ok (.i2l, 1) by decide +kernel), List.forall_mem_cons.mpr ⟨
  s_lcmp (show decode (cod 179) 51 = .ok (.lcmp, 1) by decide +kernel), List.forall_mem_cons.mpr ⟨
  s_ifle (show decode (cod 179) 52 = .ok (.ifCond .le 8, 3) by decide +kernel) (by decide), List.forall_mem_cons.mpr ⟨
  s_ldc (show decode (cod 179) 55 = .ok (.ldc 124, 2) by decide +kernel) wd_650, List.forall_mem_cons.mpr ⟨
  s_goto (show decode (cod 179) 57 = .ok (.goto 11, 3) by decide +kernel) (by decide), List.forall_mem_cons.mpr ⟨
  s_aload_n (k := 0) (show decode (cod 179) 60 = .ok (.aload_n 0, 1) by decide +kernel), List.forall_mem_cons.mpr ⟨
  s_iload_n (k := 1) (show decode (cod 179) 61 = .ok (.iload_n 1, 1) by decide +kernel), List.forall_mem_cons.mpr ⟨
  s_iload_n (k := 2) (show decode (cod 179) 62 = .ok (.iload_n 2, 1) by decide +kernel), List.forall_mem_cons.mpr ⟨
  s_iload_n (k := 3) (show decode (cod 179) 63 = .ok (.iload_n 3, 1) by decide +kernel), List.forall_mem_cons.mpr ⟨
  s_iconst (show decode (cod 179) 64 = .ok (.iconst 2, 1) by decide +kernel) rfl, List.forall_mem_cons.mpr ⟨
  s_invK rfl (rcv_virt (show decode (cod 179) 65 = .ok (.invokevirtual 276, 3) by decide +kernel) cld_179_174 ⟨11, _, _, rfl, by decide, rfl⟩ wd_769 wd_770 wd_771), List.forall_mem_cons.mpr ⟨
  s_ret (show decode (cod 179) 68 = .ok (.ireturn, 1) by decide +kernel) rI_ok (fun h => by cases h), fun _ h => by cases h⟩⟩⟩⟩⟩⟩⟩⟩⟩⟩⟩⟩⟩⟩⟩⟩⟩⟩⟩⟩⟩⟩⟩⟩⟩⟩⟩⟩⟩⟩⟩⟩⟩⟩⟩⟩⟩⟩⟩⟩
set_option maxRecDepth 100000 in
theorem si179 (X : CX) (l : Launch) : ∀ q ∈ pt179, SI X l 179 q.1 q.2 :=  si179_0 X l
set_option maxRecDepth 100000 in
set_option maxHeartbeats 4000000 in
theorem si180_0 (X : CX) (l : Launch) : ∀ q ∈ ([(0, iP 1 (fIld 1)), (1, iP 2 fI2l), (2, iP 3 (fK (.inr (.inl 0)))), (3, iP 6 (fK (.inr (.inl 4)))), (6, iC 9 130 6 3 1), (9, iB 12 15 (b1 (fun x => decide (x ≠ 0)))), (12, iP 14 (fK (.inl (-1000001)))), (14, iRet rI), (15, iP 16 (fAld 0)), (16, iCK 19 12 153 3 1 0), (19, iP 20 (fK (.inl 0))), (20, iP 21 (fIst 2)), (21, iP 22 (fK (.inl 0))), (22, iP 23 (fIst 3)), (23, iP 24 (fIld 3)), (24, iP 25 (fAld 0)), (25, iRI 28 (gtI 50)), (28, iB 31 201 (b2 (fun x y => decide (y ≤ x)))), (31, iP 32 (fK (.inl 0))), (32, iP 34 (fIst 4)), (34, iP 35 (fK (.inl 0))), (35, iP 37 (fIst 5)), (37, iP 39 (fIld 5)), (39, iP 40 (fAld 0)), (40, iRR 43 (gtR 51)), (43, iP 44 (fIld 3)), (44, iRI 45 qAI), (45, iB 48 80 (b2 (fun x y => decide (y ≤ x)))), (48, iP 50 (fIld 4)), (50, iP 51 (fAld 0)), (51, iRR 54 (gtR 52)), (54, iP 56 (fK (.inl 24))), (56, iP 57 (fIld 3)), (57, iP 58 (f2I (fun x y => x * y))), (58, iP 60 (fIld 5)), (60, iP 61 (f2I (fun x y => x + y))), (61, iRI 62 qAI), (62, iP 63 (fK (.inl 4))), (63, iB 66 70 (b2 (fun x y => decide (x ≠ y)))), (66, iP 67 (fK (.inl 1)))] : List (Nat × AS)), SI X l 180 q.1 q.2 := List.forall_mem_cons.mpr ⟨
  s_iload_n (k := 1) (show decode (cod 180) 0 = .ok (.iload_n 1, 1) by decide +kernel), List.forall_mem_cons.mpr ⟨
  s_i2l (show decode (cod 180) 1 = .ok (.i2l, 1) by decide +kernel), List.forall_mem_cons.mpr ⟨
  s_lconst (show decode (cod 180) 2 = .ok (.lconst 0, 1) by decide +kernel) rfl, List.forall_mem_cons.mpr ⟨
  s_ldc2 (show decode (cod 180) 3 = .ok (.ldc2_w 274, 3) by decide +kernel) wd_767, List.forall_mem_cons.mpr ⟨
  s_invS (show decode (cod 180) 6 = .ok (.invokestatic 100, 3) by decide +kernel) rfl cld_180_130 wd_641 wd_642, List.forall_mem_cons.mpr ⟨
  s_ifne (show decode (cod 180) 9 = .ok (.ifCond .ne 6, 3) by decide +kernel) (by decide), List.forall_mem_cons.mpr ⟨
  s_ldc (show decode (cod 180) 12 = .ok (.ldc 111, 2) by decide +kernel) wd_644, List.forall_mem_cons.mpr ⟨
  s_ret (show decode (cod 180) 14 = .ok (.ireturn, 1) by decide +kernel) rI_ok (fun h => by cases h), List.forall_mem_cons.mpr ⟨
  s_aload_n (k := 0) (show decode (cod 180) 15 = .ok (.aload_n 0, 1) by decide +kernel), List.forall_mem_cons.mpr ⟨
  s_invK rfl (rcv_virt (show decode (cod 180) 16 = .ok (.invokevirtual 206, 3) by decide +kernel) cld_180_153 ⟨11, _, _, rfl, by decide, rfl⟩ wd_699 wd_700 wd_701), List.forall_mem_cons.mpr ⟨
  s_iconst (show decode (cod 180) 19 = .ok (.iconst 0, 1) by decide +kernel) rfl, List.forall_mem_cons.mpr ⟨
  s_istore_n (k := 2) (show decode (cod 180) 20 = .ok (.istore_n 2, 1) by decide +kernel), List.forall_mem_cons.mpr ⟨
  s_iconst (show decode (cod 180) 21 = .ok (.iconst 0, 1) by decide +kernel) rfl, List.forall_mem_cons.mpr ⟨
  s_istore_n (k := 3) (show decode (cod 180) 22 = .ok (.istore_n 3, 1) by decide +kernel), List.forall_mem_cons.mpr ⟨
  s_iload_n (k := 3) (show decode (cod 180) 23 = .ok (.iload_n 3, 1) by decide +kernel), List.forall_mem_cons.mpr ⟨
  s_aload_n (k := 0) (show decode (cod 180) 24 = .ok (.aload_n 0, 1) by decide +kernel), List.forall_mem_cons.mpr ⟨
  s_getI (show decode (cod 180) 25 = .ok (.getfield 97, 3) by decide +kernel) wd_636 (Or.inl rfl) (Or.inl rfl), List.forall_mem_cons.mpr ⟨
  s_icmpge (show decode (cod 180) 28 = .ok (.if_icmp .ge 173, 3) by decide +kernel) (by decide), List.forall_mem_cons.mpr ⟨
  s_iconst (show decode (cod 180) 31 = .ok (.iconst 0, 1) by decide +kernel) rfl, List.forall_mem_cons.mpr ⟨
  s_istore (k := 4) (show decode (cod 180) 32 = .ok (.istore 4, 2) by decide +kernel), List.forall_mem_cons.mpr ⟨
  s_iconst (show decode (cod 180) 34 = .ok (.iconst 0, 1) by decide +kernel) rfl, List.forall_mem_cons.mpr ⟨
  s_istore (k := 5) (show decode (cod 180) 35 = .ok (.istore 5, 2) by decide +kernel), List.forall_mem_cons.mpr ⟨
  s_iload (k := 5) (show decode (cod 180) 37 = .ok (.iload 5, 2) by decide +kernel), List.forall_mem_cons.mpr ⟨
  s_aload_n (k := 0) (show decode (cod 180) 39 = .ok (.aload_n 0, 1) by decide +kernel), List.forall_mem_cons.mpr ⟨
  s_getR (show decode (cod 180) 40 = .ok (.getfield 7, 3) by decide +kernel) wd_607 (Or.inl rfl) rfl, List.forall_mem_cons.mpr ⟨
  s_iload_n (k := 3) (show decode (cod 180) 43 = .ok (.iload_n 3, 1) by decide +kernel), List.forall_mem_cons.mpr ⟨
  s_iaload (show decode (cod 180) 44 = .ok (.iaload, 1) by decide +kernel), List.forall_mem_cons.mpr ⟨
  s_icmpge (show decode (cod 180) 45 = .ok (.if_icmp .ge 35, 3) by decide +kernel) (by decide), List.forall_mem_cons.mpr ⟨
  s_iload (k := 4) (show decode (cod 180) 48 = .ok (.iload 4, 2) by decide +kernel), List.forall_mem_cons.mpr ⟨
  s_aload_n (k := 0) (show decode (cod 180) 50 = .ok (.aload_n 0, 1) by decide +kernel), List.forall_mem_cons.mpr ⟨
  s_getR (show decode (cod 180) 51 = .ok (.getfield 13, 3) by decide +kernel) wd_608 (Or.inl rfl) rfl, List.forall_mem_cons.mpr ⟨
  s_bipush (show decode (cod 180) 54 = .ok (.bipush 24, 2) by decide +kernel) rfl, List.forall_mem_cons.mpr ⟨
  s_iload_n (k := 3) (show decode (cod 180) 56 = .ok (.iload_n 3, 1) by decide +kernel), List.forall_mem_cons.mpr ⟨
  s_imul (show decode (cod 180) 57 = .ok (.imul, 1) by decide +kernel), List.forall_mem_cons.mpr ⟨
  s_iload (k := 5) (show decode (cod 180) 58 = .ok (.iload 5, 2) by decide +kernel), List.forall_mem_cons.mpr ⟨
  s_iadd (show decode (cod 180) 60 = .ok (.iadd, 1) by decide +kernel), List.forall_mem_cons.mpr ⟨
  s_iaload (show decode (cod 180) 61 = .ok (.iaload, 1) by decide +kernel), List.forall_mem_cons.mpr ⟨
  s_iconst (show decode (cod 180) 62 = .ok (.iconst 4, 1) by decide +kernel) rfl, List.forall_mem_cons.mpr ⟨
  s_icmpne (show decode (cod 180) 63 = .ok (.if_icmp .ne 7, 3) by decide +kernel) (by decide), List.forall_mem_cons.mpr ⟨
  s_iconst (show decode (cod 180) 66 = .ok (.iconst 1, 1) by decide +kernel) rfl, fun _ h => by cases h⟩⟩⟩⟩⟩⟩⟩⟩⟩⟩⟩⟩⟩⟩⟩⟩⟩⟩⟩⟩⟩⟩⟩⟩⟩⟩⟩⟩⟩⟩⟩⟩⟩⟩⟩⟩⟩⟩⟩⟩
set_option maxRecDepth 100000 in
set_option maxHeartbeats 4000000 in
theorem si180_1 (X : CX) (l : Launch) : ∀ q ∈ ([(67, iP 71 fGo), (70, iP 71 (fK (.inl 0))), (71, iP 72 (f2I (fun x y => x + y))), (72, iP 74 (fIst 4)), (74, iP 77 (fInc 5 1)), (77, iP 37 fGo), (80, iP 81 (fAld 0)), (81, iRR 84 (gtR 68)), (84, iP 85 (fIld 3)), (85, iRI 86 qAZ), (86, iB 89 125 (b1 (fun x => decide (x = 0)))), (89, iP 90 (fAld 0)), (90, iRR 93 (gtR 70)), (93, iP 94 (fK (.inl 2))), (94, iP 95 (fIld 3)), (95, iP 96 (f2I (fun x y => x * y))), (96, iRI 97 qAZ), (97, iB 100 125 (b1 (fun x => decide (x ≠ 0)))), (100, iP 101 (fAld 0)), (101, iRR 104 (gtR 70)), (104, iP 105 (fK (.inl 2))), (105, iP 106 (fIld 3)), (106, iP 107 (f2I (fun x y => x * y))), (107, iP 108 (fK (.inl 1))), (108, iP 109 (f2I (fun x y => x + y))), (109, iRI 110 qAZ), (110, iB 113 125 (b1 (fun x => decide (x ≠ 0)))), (113, iP 114 (fAld 0)), (114, iP 115 (fIld 3)), (115, iCK 118 12 172 4 2 1), (118, iB 121 125 (b1 (fun x => decide (x = 0)))), (121, iP 122 (fK (.inl 1))), (122, iP 126 fGo), (125, iP 126 (fK (.inl 0))), (126, iP 128 (fIst 5)), (128, iP 129 (fIld 2)), (129, iP 130 (fIld 1)), (130, iB 133 137 (b1 (fun x => decide (x ≠ 0)))), (133, iP 134 (fK (.inl 1))), (134, iP 193 fGo)] : List (Nat × AS)), SI X l 180 q.1 q.2 := List.forall_mem_cons.mpr ⟨
  s_goto (show decode (cod 180) 67 = .ok (.goto 4, 3) by decide +kernel) (by decide), List.forall_mem_cons.mpr ⟨
  s_iconst (show decode (cod 180) 70 = .ok (.iconst 0, 1) by decide +kernel) rfl, List.forall_mem_cons.mpr ⟨
  s_iadd (show decode (cod 180) 71 = .ok (.iadd, 1) by decide +kernel), List.forall_mem_cons.mpr ⟨
  s_istore (k := 4) (show decode (cod 180) 72 = .ok (.istore 4, 2) by decide +kernel), List.forall_mem_cons.mpr ⟨
  s_iinc (show decode (cod 180) 74 = .ok (.iinc 5 1, 3) by decide +kernel) rfl, List.forall_mem_cons.mpr ⟨
  s_goto (show decode (cod 180) 77 = .ok (.goto (-40), 3) by decide +kernel) (by decide), List.forall_mem_cons.mpr ⟨
  s_aload_n (k := 0) (show decode (cod 180) 80 = .ok (.aload_n 0, 1) by decide +kernel), List.forall_mem_cons.mpr ⟨
  s_getR (show decode (cod 180) 81 = .ok (.getfield 51, 3) by decide +kernel) wd_621 (Or.inl rfl) rfl, List.forall_mem_cons.mpr ⟨
  s_iload_n (k := 3) (show decode (cod 180) 84 = .ok (.iload_n 3, 1) by decide +kernel), List.forall_mem_cons.mpr ⟨
  s_baload (show decode (cod 180) 85 = .ok (.baload, 1) by decide +kernel), List.forall_mem_cons.mpr ⟨
  s_ifeq (show decode (cod 180) 86 = .ok (.ifCond .eq 39, 3) by decide +kernel) (by decide), List.forall_mem_cons.mpr ⟨
  s_aload_n (k := 0) (show decode (cod 180) 89 = .ok (.aload_n 0, 1) by decide +kernel), List.forall_mem_cons.mpr ⟨
  s_getR (show decode (cod 180) 90 = .ok (.getfield 58, 3) by decide +kernel) wd_623 (Or.inl rfl) rfl, List.forall_mem_cons.mpr ⟨
  s_iconst (show decode (cod 180) 93 = .ok (.iconst 2, 1) by decide +kernel) rfl, List.forall_mem_cons.mpr ⟨
  s_iload_n (k := 3) (show decode (cod 180) 94 = .ok (.iload_n 3, 1) by decide +kernel), List.forall_mem_cons.mpr ⟨
  s_imul (show decode (cod 180) 95 = .ok (.imul, 1) by decide +kernel), List.forall_mem_cons.mpr ⟨
  s_baload (show decode (cod 180) 96 = .ok (.baload, 1) by decide +kernel), List.forall_mem_cons.mpr ⟨
  s_ifne (show decode (cod 180) 97 = .ok (.ifCond .ne 28, 3) by decide +kernel) (by decide), List.forall_mem_cons.mpr ⟨
  s_aload_n (k := 0) (show decode (cod 180) 100 = .ok (.aload_n 0, 1) by decide +kernel), List.forall_mem_cons.mpr ⟨
  s_getR (show decode (cod 180) 101 = .ok (.getfield 58, 3) by decide +kernel) wd_623 (Or.inl rfl) rfl, List.forall_mem_cons.mpr ⟨
  s_iconst (show decode (cod 180) 104 = .ok (.iconst 2, 1) by decide +kernel) rfl, List.forall_mem_cons.mpr ⟨
  s_iload_n (k := 3) (show decode (cod 180) 105 = .ok (.iload_n 3, 1) by decide +kernel), List.forall_mem_cons.mpr ⟨
  s_imul (show decode (cod 180) 106 = .ok (.imul, 1) by decide +kernel), List.forall_mem_cons.mpr ⟨
  s_iconst (show decode (cod 180) 107 = .ok (.iconst 1, 1) by decide +kernel) rfl, List.forall_mem_cons.mpr ⟨
  s_iadd (show decode (cod 180) 108 = .ok (.iadd, 1) by decide +kernel), List.forall_mem_cons.mpr ⟨
  s_baload (show decode (cod 180) 109 = .ok (.baload, 1) by decide +kernel), List.forall_mem_cons.mpr ⟨
  s_ifne (show decode (cod 180) 110 = .ok (.ifCond .ne 15, 3) by decide +kernel) (by decide), List.forall_mem_cons.mpr ⟨
  s_aload_n (k := 0) (show decode (cod 180) 113 = .ok (.aload_n 0, 1) by decide +kernel), List.forall_mem_cons.mpr ⟨
  s_iload_n (k := 3) (show decode (cod 180) 114 = .ok (.iload_n 3, 1) by decide +kernel), List.forall_mem_cons.mpr ⟨
  s_invK rfl (rcv_virt (show decode (cod 180) 115 = .ok (.invokevirtual 237, 3) by decide +kernel) cld_180_172 ⟨11, _, _, rfl, by decide, rfl⟩ wd_764 wd_765 wd_766), List.forall_mem_cons.mpr ⟨
  s_ifeq (show decode (cod 180) 118 = .ok (.ifCond .eq 7, 3) by decide +kernel) (by decide), List.forall_mem_cons.mpr ⟨
  s_iconst (show decode (cod 180) 121 = .ok (.iconst 1, 1) by decide +kernel) rfl, List.forall_mem_cons.mpr ⟨
  s_goto (show decode (cod 180) 122 = .ok (.goto 4, 3) by decide +kernel) (by decide), List.forall_mem_cons.mpr ⟨
  s_iconst (show decode (cod 180) 125 = .ok (.iconst 0, 1) by decide +kernel) rfl, List.forall_mem_cons.mpr ⟨
  s_istore (k := 5) (show decode (cod 180) 126 = .ok (.istore 5, 2) by decide +kernel), List.forall_mem_cons.mpr ⟨
  s_iload_n (k := 2) (show decode (cod 180) 128 = .ok (.iload_n 2, 1) by decide +kernel), List.forall_mem_cons.mpr ⟨
  s_iload_n (k := 1) (show decode (cod 180) 129 = .ok (.iload_n 1, 1) by decide +kernel), List.forall_mem_cons.mpr ⟨
  s_ifne (show decode (cod 180) 130 = .ok (.ifCond .ne 7, 3) by decide +kernel) (by decide), List.forall_mem_cons.mpr ⟨
  s_iconst (show decode (cod 180) 133 = .ok (.iconst 1, 1) by decide +kernel) rfl, List.forall_mem_cons.mpr ⟨
  s_goto (show decode (cod 180) 134 = .ok (.goto 59, 3) by decide +kernel) (by decide), fun _ h => by cases h⟩⟩⟩⟩⟩⟩⟩⟩⟩⟩⟩⟩⟩⟩⟩⟩⟩⟩⟩⟩⟩⟩⟩⟩⟩⟩⟩⟩⟩⟩⟩⟩⟩⟩⟩⟩⟩⟩⟩⟩
set_option maxRecDepth 100000 in
set_option maxHeartbeats 4000000 in
theorem si180_2 (X : CX) (l : Launch) : ∀ q ∈ ([(137, iP 138 (fIld 1)), (138, iP 139 (fK (.inl 1))), (139, iB 142 151 (b2 (fun x y => decide (x ≠ y)))), (142, iP 143 (fAld 0)), (143, iRR 146 (gtR 51)), (146, iP 147 (fIld 3)), (147, iRI 148 qAI), (148, iP 193 fGo), (151, iP 152 (fIld 1)), (152, iP 153 (fK (.inl 2))), (153, iB 156 173 (b2 (fun x y => decide (x ≠ y)))), (156, iP 157 (fAld 0)), (157, iRR 160 (gtR 69)), (160, iP 161 (fIld 3)), (161, iRI 162 qAZ), (162, iB 165 169 (b1 (fun x => decide (x = 0)))), (165, iP 166 (fK (.inl 1))), (166, iP 193 fGo), (169, iP 170 (fK (.inl 0))), (170, iP 193 fGo), (173, iP 174 (fIld 1)), (174, iP 175 (fK (.inl 3))), (175, iB 178 191 (b2 (fun x y => decide (x ≠ y)))), (178, iP 180 (fIld 5)), (180, iB 183 187 (b1 (fun x => decide (x = 0)))), (183, iP 184 (fK (.inl 1))), (184, iP 193 fGo), (187, iP 188 (fK (.inl 0))), (188, iP 193 fGo), (191, iP 193 (fIld 4)), (193, iP 194 (f2I (fun x y => x + y))), (194, iP 195 (fIst 2)), (195, iP 198 (fInc 3 1)), (198, iP 23 fGo), (201, iP 202 (fIld 2)), (202, iRet rI)] : List (Nat × AS)), SI X l 180 q.1 q.2 := List.forall_mem_cons.mpr ⟨
  s_iload_n (k := 1) (show decode (cod 180) 137 = .ok (.iload_n 1, 1) by decide +kernel), List.forall_mem_cons.mpr ⟨
  s_iconst (show decode (cod 180) 138 = .ok (.iconst 1, 1) by decide +kernel) rfl, List.forall_mem_cons.mpr ⟨
  s_icmpne (show decode (cod 180) 139 = .ok (.if_icmp .ne 12, 3) by decide +kernel) (by decide), List.forall_mem_cons.mpr ⟨
  s_aload_n (k := 0) (show decode (cod 180) 142 = .ok (.aload_n 0, 1) by decide +kernel), List.forall_mem_cons.mpr ⟨
  s_getR (show decode (cod 180) 143 = .ok (.getfield 7, 3) by decide +kernel) wd_607 (Or.inl rfl) rfl, List.forall_mem_cons.mpr ⟨
  s_iload_n (k := 3) (show decode (cod 180) 146 = .ok (.iload_n 3, 1) by decide +kernel), List.forall_mem_cons.mpr ⟨
  s_iaload (show decode (cod 180) 147 = .ok (.iaload, 1) by decide +kernel), List.forall_mem_cons.mpr ⟨
  s_goto (show decode (cod 180) 148 = .ok (.goto 45, 3) by decide +kernel) (by decide), List.forall_mem_cons.mpr ⟨
  s_iload_n (k := 1) (show decode (cod 180) 151 = .ok (.iload_n 1, 1) by decide +kernel), List.forall_mem_cons.mpr ⟨
  s_iconst (show decode (cod 180) 152 = .ok (.iconst 2, 1) by decide +kernel) rfl, List.forall_mem_cons.mpr ⟨
  s_icmpne (show decode (cod 180) 153 = .ok (.if_icmp .ne 20, 3) by decide +kernel) (by decide), List.forall_mem_cons.mpr ⟨
  s_aload_n (k := 0) (show decode (cod 180) 156 = .ok (.aload_n 0, 1) by decide +kernel), List.forall_mem_cons.mpr ⟨
  s_getR (show decode (cod 180) 157 = .ok (.getfield 55, 3) by decide +kernel) wd_622 (Or.inl rfl) rfl, List.forall_mem_cons.mpr ⟨
  s_iload_n (k := 3) (show decode (cod 180) 160 = .ok (.iload_n 3, 1) by decide +kernel), List.forall_mem_cons.mpr ⟨
  s_baload (show decode (cod 180) 161 = .ok (.baload, 1) by decide +kernel), List.forall_mem_cons.mpr ⟨
  s_ifeq (show decode (cod 180) 162 = .ok (.ifCond .eq 7, 3) by decide +kernel) (by decide), List.forall_mem_cons.mpr ⟨
  s_iconst (show decode (cod 180) 165 = .ok (.iconst 1, 1) by decide +kernel) rfl, List.forall_mem_cons.mpr ⟨
  s_goto (show decode (cod 180) 166 = .ok (.goto 27, 3) by decide +kernel) (by decide), List.forall_mem_cons.mpr ⟨
  s_iconst (show decode (cod 180) 169 = .ok (.iconst 0, 1) by decide +kernel) rfl, List.forall_mem_cons.mpr ⟨
  s_goto (show decode (cod 180) 170 = .ok (.goto 23, 3) by decide +kernel) (by decide), List.forall_mem_cons.mpr ⟨
  s_iload_n (k := 1) (show decode (cod 180) 173 = .ok (.iload_n 1, 1) by decide +kernel), List.forall_mem_cons.mpr ⟨
  s_iconst (show decode (cod 180) 174 = .ok (.iconst 3, 1) by decide +kernel) rfl, List.forall_mem_cons.mpr ⟨
  s_icmpne (show decode (cod 180) 175 = .ok (.if_icmp .ne 16, 3) by decide +kernel) (by decide), List.forall_mem_cons.mpr ⟨
  s_iload (k := 5) (show decode (cod 180) 178 = .ok (.iload 5, 2) by decide +kernel), List.forall_mem_cons.mpr ⟨
  s_ifeq (show decode (cod 180) 180 = .ok (.ifCond .eq 7, 3) by decide +kernel) (by decide), List.forall_mem_cons.mpr ⟨
  s_iconst (show decode (cod 180) 183 = .ok (.iconst 1, 1) by decide +kernel) rfl, List.forall_mem_cons.mpr ⟨
  s_goto (show decode (cod 180) 184 = .ok (.goto 9, 3) by decide +kernel) (by decide), List.forall_mem_cons.mpr ⟨
  s_iconst (show decode (cod 180) 187 = .ok (.iconst 0, 1) by decide +kernel) rfl, List.forall_mem_cons.mpr ⟨
  s_goto (show decode (cod 180) 188 = .ok (.goto 5, 3) by decide +kernel) (by decide), List.forall_mem_cons.mpr ⟨
  s_iload (k := 4) (show decode (cod 180) 191 = .ok (.iload 4, 2) by decide +kernel), List.forall_mem_cons.mpr ⟨
  s_iadd (show decode (cod 180) 193 = .ok (.iadd, 1) by decide +kernel), List.forall_mem_cons.mpr ⟨
  s_istore_n (k := 2) (show decode (cod 180) 194 = .ok (.istore_n 2, 1) by decide +kernel), List.forall_mem_cons.mpr ⟨
  s_iinc (show decode (cod 180) 195 = .ok (.iinc 3 1, 3) by decide +kernel) rfl, List.forall_mem_cons.mpr ⟨
  s_goto (show decode (cod 180) 198 = .ok (.goto (-175), 3) by decide +kernel) (by decide), List.forall_mem_cons.mpr ⟨
  s_iload_n (k := 2) (show decode (cod 180) 201 = .ok (.iload_n 2, 1) by decide +kernel), List.forall_mem_cons.mpr ⟨
  s_ret (show decode (cod 180) 202 = .ok (.ireturn, 1) by decide +kernel) rI_ok (fun h => by cases h), fun _ h => by cases h⟩⟩⟩⟩⟩⟩⟩⟩⟩⟩⟩⟩⟩⟩⟩⟩⟩⟩⟩⟩⟩⟩⟩⟩⟩⟩⟩⟩⟩⟩⟩⟩⟩⟩⟩⟩
set_option maxRecDepth 100000 in
theorem si180 (X : CX) (l : Launch) : ∀ q ∈ pt180, SI X l 180 q.1 q.2 := (List.forall_mem_append (l₁ := _) (l₂ := _)).mpr ⟨si180_0 X l, (List.forall_mem_append (l₁ := _) (l₂ := _)).mpr ⟨si180_1 X l, si180_2 X l⟩⟩
set_option maxRecDepth 100000 in
set_option maxHeartbeats 4000000 in
theorem si181_0 (X : CX) (l : Launch) : ∀ q ∈ ([(0, iW 3 (wNew 11 7)), (3, iP 4 fDup), (4, iCK 7 11 0 2 1 0), (7, iP 8 (fAst 1)), (8, iW 11 (wNew 12 40)), (11, iP 12 fDup), (12, iCK 15 12 127 6 1 0), (15, iP 16 (fAst 2)), (16, iP 17 (fK (.inl 0))), (17, iP 18 (fIst 3)), (18, iP 19 (fIld 3)), (19, iP 20 (fAld 0)), (20, iRI 21 qLen), (21, iP 23 (fK (.inl 8))), (23, iP 24 (f2I (fun x y => x - y))), (24, iB 27 907 (b2 (fun x y => decide (y < x)))), (27, iP 28 (fAld 0)), (28, iP 29 (fIld 3)), (29, iRI 30 qAI), (30, iP 32 (fK (.inl 31))), (32, iP 33 (f2I (fun x y => x &&& y))), (33, iSw 901 0 [132, 145, 232, 265, 288, 321, 344, 377, 400, 433, 476, 519, 562, 585, 618, 672, 726, 749, 802, 825, 878]), (132, iP 133 (fAld 1)), (133, iCK 136 11 11 1 1 1), (136, iP 137 (fAld 2)), (137, iCK 140 12 128 1 1 1), (140, iB 143 901 (b2 (fun x y => decide (x = y)))), (143, iP 144 (fK (.inl 0))), (144, iRet rZ), (145, iP 146 (fAld 1)), (146, iP 147 (fAld 0)), (147, iP 148 (fIld 3)), (148, iP 149 (fK (.inl 1))), (149, iP 150 (f2I (fun x y => x + y))), (150, iRI 151 qAI), (151, iP 152 (fAld 0)), (152, iP 153 (fIld 3)), (153, iP 154 (fK (.inl 2))), (154, iP 155 (f2I (fun x y => x + y))), (155, iRI 156 qAI)] : List (Nat × AS)), SI X l 181 q.1 q.2 := List.forall_mem_cons.mpr ⟨
  s_new (show decode (cod 181) 0 = .ok (.new 7, 3) by decide +kernel) (by decide) rfl wd_793 wd_794 wd_97, List.forall_mem_cons.mpr ⟨
  s_dup (show decode (cod 181) 3 = .ok (.dup, 1) by decide +kernel), List.forall_mem_cons.mpr ⟨
  s_invK rfl (rcv_init (C := "StepsAhead") (show decode (cod 181) 4 = .ok (.invokespecial 9, 3) by decide +kernel) cld_181_0 rfl rfl ⟨10, _, _, rfl, by decide, rfl⟩ wd_796 wd_797), List.forall_mem_cons.mpr ⟨
  s_astore_n (k := 1) (show decode (cod 181) 7 = .ok (.astore_n 1, 1) by decide +kernel), List.forall_mem_cons.mpr ⟨
  s_new (show decode (cod 181) 8 = .ok (.new 10, 3) by decide +kernel) (by decide) rfl wd_798 wd_799 wd_640, List.forall_mem_cons.mpr ⟨
  s_dup (show decode (cod 181) 11 = .ok (.dup, 1) by decide +kernel), List.forall_mem_cons.mpr ⟨
  s_invK rfl (rcv_init (C := "StepsAheadModel") (show decode (cod 181) 12 = .ok (.invokespecial 12, 3) by decide +kernel) cld_181_127 rfl rfl ⟨11, _, _, rfl, by decide, rfl⟩ wd_801 wd_802), List.forall_mem_cons.mpr ⟨
  s_astore_n (k := 2) (show decode (cod 181) 15 = .ok (.astore_n 2, 1) by decide +kernel), List.forall_mem_cons.mpr ⟨
  s_iconst (show decode (cod 181) 16 = .ok (.iconst 0, 1) by decide +kernel) rfl, List.forall_mem_cons.mpr ⟨
  s_istore_n (k := 3) (show decode (cod 181) 17 = .ok (.istore_n 3, 1) by decide +kernel), List.forall_mem_cons.mpr ⟨
  s_iload_n (k := 3) (show decode (cod 181) 18 = .ok (.iload_n 3, 1) by decide +kernel), List.forall_mem_cons.mpr ⟨
  s_aload_n (k := 0) (show decode (cod 181) 19 = .ok (.aload_n 0, 1) by decide +kernel), List.forall_mem_cons.mpr ⟨
  s_alen (show decode (cod 181) 20 = .ok (.arraylength, 1) by decide +kernel), List.forall_mem_cons.mpr ⟨
  s_bipush (show decode (cod 181) 21 = .ok (.bipush 8, 2) by decide +kernel) rfl, List.forall_mem_cons.mpr ⟨
  s_isub (show decode (cod 181) 23 = .ok (.isub, 1) by decide +kernel), List.forall_mem_cons.mpr ⟨
  s_icmpgt (show decode (cod 181) 24 = .ok (.if_icmp .gt 883, 3) by decide +kernel) (by decide), List.forall_mem_cons.mpr ⟨
  s_aload_n (k := 0) (show decode (cod 181) 27 = .ok (.aload_n 0, 1) by decide +kernel), List.forall_mem_cons.mpr ⟨
  s_iload_n (k := 3) (show decode (cod 181) 28 = .ok (.iload_n 3, 1) by decide +kernel), List.forall_mem_cons.mpr ⟨
  s_iaload (show decode (cod 181) 29 = .ok (.iaload, 1) by decide +kernel), List.forall_mem_cons.mpr ⟨
  s_bipush (show decode (cod 181) 30 = .ok (.bipush 31, 2) by decide +kernel) rfl, List.forall_mem_cons.mpr ⟨
  s_iand (show decode (cod 181) 32 = .ok (.iand, 1) by decide +kernel), List.forall_mem_cons.mpr ⟨
  s_table (show decode (cod 181) 33 = .ok (.tableswitch 868 0 20 #[99, 112, 199, 232, 255, 288, 311, 344, 367, 400, 443, 486, 529, 552, 585, 639, 693, 716, 769, 792, 845], 99) by decide +kernel) (by decide) (by decide) rfl (by decide) (fun j t h => match j, h with | 0, h => ⟨_, rfl, by cases h; rfl⟩ | 1, h => ⟨_, rfl, by cases h; rfl⟩ | 2, h => ⟨_, rfl, by cases h; rfl⟩ | 3, h => ⟨_, rfl, by cases h; rfl⟩ | 4, h => ⟨_, rfl, by cases h; rfl⟩ | 5, h => ⟨_, rfl, by cases h; rfl⟩ | 6, h => ⟨_, rfl, by cases h; rfl⟩ | 7, h => ⟨_, rfl, by cases h; rfl⟩ | 8, h => ⟨_, rfl, by cases h; rfl⟩ | 9, h => ⟨_, rfl, by cases h; rfl⟩ | 10, h => ⟨_, rfl, by cases h; rfl⟩ | 11, h => ⟨_, rfl, by cases h; rfl⟩ | 12, h => ⟨_, rfl, by cases h; rfl⟩ | 13, h => ⟨_, rfl, by cases h; rfl⟩ | 14, h => ⟨_, rfl, by cases h; rfl⟩ | 15, h => ⟨_, rfl, by cases h; rfl⟩ | 16, h => ⟨_, rfl, by cases h; rfl⟩ | 17, h => ⟨_, rfl, by cases h; rfl⟩ | 18, h => ⟨_, rfl, by cases h; rfl⟩ | 19, h => ⟨_, rfl, by cases h; rfl⟩ | 20, h => ⟨_, rfl, by cases h; rfl⟩ | j + 21, h => by simp at h), List.forall_mem_cons.mpr ⟨
  s_aload_n (k := 1) (show decode (cod 181) 132 = .ok (.aload_n 1, 1) by decide +kernel), List.forall_mem_cons.mpr ⟨
  s_invK rfl (rcv_virt (show decode (cod 181) 133 = .ok (.invokevirtual 13, 3) by decide +kernel) cld_181_11 ⟨10, _, _, rfl, by decide, rfl⟩ wd_804 wd_805 wd_806), List.forall_mem_cons.mpr ⟨
  s_aload_n (k := 2) (show decode (cod 181) 136 = .ok (.aload_n 2, 1) by decide +kernel), List.forall_mem_cons.mpr ⟨
  s_invK rfl (rcv_virt (show decode (cod 181) 137 = .ok (.invokevirtual 17, 3) by decide +kernel) cld_181_128 ⟨11, _, _, rfl, by decide, rfl⟩ wd_808 wd_809 wd_810), List.forall_mem_cons.mpr ⟨
  s_icmpeq (show decode (cod 181) 140 = .ok (.if_icmp .eq 761, 3) by decide +kernel) (by decide), List.forall_mem_cons.mpr ⟨
  s_iconst (show decode (cod 181) 143 = .ok (.iconst 0, 1) by decide +kernel) rfl, List.forall_mem_cons.mpr ⟨
  s_ret (show decode (cod 181) 144 = .ok (.ireturn, 1) by decide +kernel) rZ_ok (fun _ => rZ_b), List.forall_mem_cons.mpr ⟨
  s_aload_n (k := 1) (show decode (cod 181) 145 = .ok (.aload_n 1, 1) by decide +kernel), List.forall_mem_cons.mpr ⟨
  s_aload_n (k := 0) (show decode (cod 181) 146 = .ok (.aload_n 0, 1) by decide +kernel), List.forall_mem_cons.mpr ⟨
  s_iload_n (k := 3) (show decode (cod 181) 147 = .ok (.iload_n 3, 1) by decide +kernel), List.forall_mem_cons.mpr ⟨
  s_iconst (show decode (cod 181) 148 = .ok (.iconst 1, 1) by decide +kernel) rfl, List.forall_mem_cons.mpr ⟨
  s_iadd (show decode (cod 181) 149 = .ok (.iadd, 1) by decide +kernel), List.forall_mem_cons.mpr ⟨
  s_iaload (show decode (cod 181) 150 = .ok (.iaload, 1) by decide +kernel), List.forall_mem_cons.mpr ⟨
  s_aload_n (k := 0) (show decode (cod 181) 151 = .ok (.aload_n 0, 1) by decide +kernel), List.forall_mem_cons.mpr ⟨
  s_iload_n (k := 3) (show decode (cod 181) 152 = .ok (.iload_n 3, 1) by decide +kernel), List.forall_mem_cons.mpr ⟨
  s_iconst (show decode (cod 181) 153 = .ok (.iconst 2, 1) by decide +kernel) rfl, List.forall_mem_cons.mpr ⟨
  s_iadd (show decode (cod 181) 154 = .ok (.iadd, 1) by decide +kernel), List.forall_mem_cons.mpr ⟨
  s_iaload (show decode (cod 181) 155 = .ok (.iaload, 1) by decide +kernel), fun _ h => by cases h⟩⟩⟩⟩⟩⟩⟩⟩⟩⟩⟩⟩⟩⟩⟩⟩⟩⟩⟩⟩⟩⟩⟩⟩⟩⟩⟩⟩⟩⟩⟩⟩⟩⟩⟩⟩⟩⟩⟩⟩
set_option maxRecDepth 100000 in
set_option maxHeartbeats 4000000 in
theorem si181_1 (X : CX) (l : Launch) : ∀ q ∈ ([(156, iP 157 (fAld 0)), (157, iP 158 (fIld 3)), (158, iP 159 (fK (.inl 3))), (159, iP 160 (f2I (fun x y => x + y))), (160, iRI 161 qAI), (161, iP 162 (fAld 0)), (162, iP 163 (fIld 3)), (163, iP 164 (fK (.inl 4))), (164, iP 165 (f2I (fun x y => x + y))), (165, iRI 166 qAI), (166, iP 167 (fAld 0)), (167, iP 168 (fIld 3)), (168, iP 169 (fK (.inl 5))), (169, iP 170 (f2I (fun x y => x + y))), (170, iRI 171 qAI), (171, iP 172 (fAld 0)), (172, iP 173 (fIld 3)), (173, iP 175 (fK (.inl 6))), (175, iP 176 (f2I (fun x y => x + y))), (176, iRI 177 qAI), (177, iP 178 (fAld 0)), (178, iP 179 (fIld 3)), (179, iP 181 (fK (.inl 7))), (181, iP 182 (f2I (fun x y => x + y))), (182, iRI 183 qAI), (183, iCK 186 11 12 10 8 1), (186, iP 187 (fAld 2)), (187, iP 188 (fAld 0)), (188, iP 189 (fIld 3)), (189, iP 190 (fK (.inl 1))), (190, iP 191 (f2I (fun x y => x + y))), (191, iRI 192 qAI), (192, iP 193 (fAld 0)), (193, iP 194 (fIld 3)), (194, iP 195 (fK (.inl 2))), (195, iP 196 (f2I (fun x y => x + y))), (196, iRI 197 qAI), (197, iP 198 (fAld 0)), (198, iP 199 (fIld 3)), (199, iP 200 (fK (.inl 3)))] : List (Nat × AS)), SI X l 181 q.1 q.2 := List.forall_mem_cons.mpr ⟨
  s_aload_n (k := 0) (show decode (cod 181) 156 = .ok (.aload_n 0, 1) by decide +kernel), List.forall_mem_cons.mpr ⟨
  s_iload_n (k := 3) (show decode (cod 181) 157 = .ok (.iload_n 3, 1) by decide +kernel), List.forall_mem_cons.mpr ⟨
  s_iconst (show decode (cod 181) 158 = .ok (.iconst 3, 1) by decide +kernel) rfl, List.forall_mem_cons.mpr ⟨
  s_iadd (show decode (cod 181) 159 = .ok (.iadd, 1) by decide +kernel), List.forall_mem_cons.mpr ⟨
  s_iaload (show decode (cod 181) 160 = .ok (.iaload, 1) by decide +kernel), List.forall_mem_cons.mpr ⟨
  s_aload_n (k := 0) (show decode (cod 181) 161 = .ok (.aload_n 0, 1) by decide +kernel), List.forall_mem_cons.mpr ⟨
  s_iload_n (k := 3) (show decode (cod 181) 162 = .ok (.iload_n 3, 1) by decide +kernel), List.forall_mem_cons.mpr ⟨
  s_iconst (show decode (cod 181) 163 = .ok (.iconst 4, 1) by decide +kernel) rfl, List.forall_mem_cons.mpr ⟨
  s_iadd (show decode (cod 181) 164 = .ok (.iadd, 1) by decide +kernel), List.forall_mem_cons.mpr ⟨
  s_iaload (show decode (cod 181) 165 = .ok (.iaload, 1) by decide +kernel), List.forall_mem_cons.mpr ⟨
  s_aload_n (k := 0) (show decode (cod 181) 166 = .ok (.aload_n 0, 1) by decide +kernel), List.forall_mem_cons.mpr ⟨
  s_iload_n (k := 3) (show decode (cod 181) 167 = .ok (.iload_n 3, 1) by decide +kernel), List.forall_mem_cons.mpr ⟨
  s_iconst (show decode (cod 181) 168 = .ok (.iconst 5, 1) by decide +kernel) rfl, List.forall_mem_cons.mpr ⟨
  s_iadd (show decode (cod 181) 169 = .ok (.iadd, 1) by decide +kernel), List.forall_mem_cons.mpr ⟨
  s_iaload (show decode (cod 181) 170 = .ok (.iaload, 1) by decide +kernel), List.forall_mem_cons.mpr ⟨
  s_aload_n (k := 0) (show decode (cod 181) 171 = .ok (.aload_n 0, 1) by decide +kernel), List.forall_mem_cons.mpr ⟨
  s_iload_n (k := 3) (show decode (cod 181) 172 = .ok (.iload_n 3, 1) by decide +kernel), List.forall_mem_cons.mpr ⟨
  s_bipush (show decode (cod 181) 173 = .ok (.bipush 6, 2) by decide +kernel) rfl, List.forall_mem_cons.mpr ⟨
  s_iadd (show decode (cod 181) 175 = .ok (.iadd, 1) by decide +kernel), List.forall_mem_cons.mpr ⟨
  s_iaload (show decode (cod 181) 176 = .ok (.iaload, 1) by decide +kernel), List.forall_mem_cons.mpr ⟨
  s_aload_n (k := 0) (show decode (cod 181) 177 = .ok (.aload_n 0, 1) by decide +kernel), List.forall_mem_cons.mpr ⟨
  s_iload_n (k := 3) (show decode (cod 181) 178 = .ok (.iload_n 3, 1) by decide +kernel), List.forall_mem_cons.mpr ⟨
  s_bipush (show decode (cod 181) 179 = .ok (.bipush 7, 2) by decide +kernel) rfl, List.forall_mem_cons.mpr ⟨
  s_iadd (show decode (cod 181) 181 = .ok (.iadd, 1) by decide +kernel), List.forall_mem_cons.mpr ⟨
  s_iaload (show decode (cod 181) 182 = .ok (.iaload, 1) by decide +kernel), List.forall_mem_cons.mpr ⟨
  s_invK rfl (rcv_virt (show decode (cod 181) 183 = .ok (.invokevirtual 18, 3) by decide +kernel) cld_181_12 ⟨10, _, _, rfl, by decide, rfl⟩ wd_812 wd_813 wd_814), List.forall_mem_cons.mpr ⟨
  s_aload_n (k := 2) (show decode (cod 181) 186 = .ok (.aload_n 2, 1) by decide +kernel), List.forall_mem_cons.mpr ⟨
  s_aload_n (k := 0) (show decode (cod 181) 187 = .ok (.aload_n 0, 1) by decide +kernel), List.forall_mem_cons.mpr ⟨
  s_iload_n (k := 3) (show decode (cod 181) 188 = .ok (.iload_n 3, 1) by decide +kernel), List.forall_mem_cons.mpr ⟨
  s_iconst (show decode (cod 181) 189 = .ok (.iconst 1, 1) by decide +kernel) rfl, List.forall_mem_cons.mpr ⟨
  s_iadd (show decode (cod 181) 190 = .ok (.iadd, 1) by decide +kernel), List.forall_mem_cons.mpr ⟨
  s_iaload (show decode (cod 181) 191 = .ok (.iaload, 1) by decide +kernel), List.forall_mem_cons.mpr ⟨
  s_aload_n (k := 0) (show decode (cod 181) 192 = .ok (.aload_n 0, 1) by decide +kernel), List.forall_mem_cons.mpr ⟨
  s_iload_n (k := 3) (show decode (cod 181) 193 = .ok (.iload_n 3, 1) by decide +kernel), List.forall_mem_cons.mpr ⟨
  s_iconst (show decode (cod 181) 194 = .ok (.iconst 2, 1) by decide +kernel) rfl, List.forall_mem_cons.mpr ⟨
  s_iadd (show decode (cod 181) 195 = .ok (.iadd, 1) by decide +kernel), List.forall_mem_cons.mpr ⟨
  s_iaload (show decode (cod 181) 196 = .ok (.iaload, 1) by decide +kernel), List.forall_mem_cons.mpr ⟨
  s_aload_n (k := 0) (show decode (cod 181) 197 = .ok (.aload_n 0, 1) by decide +kernel), List.forall_mem_cons.mpr ⟨
  s_iload_n (k := 3) (show decode (cod 181) 198 = .ok (.iload_n 3, 1) by decide +kernel), List.forall_mem_cons.mpr ⟨
  s_iconst (show decode (cod 181) 199 = .ok (.iconst 3, 1) by decide +kernel) rfl, fun _ h => by cases h⟩⟩⟩⟩⟩⟩⟩⟩⟩⟩⟩⟩⟩⟩⟩⟩⟩⟩⟩⟩⟩⟩⟩⟩⟩⟩⟩⟩⟩⟩⟩⟩⟩⟩⟩⟩⟩⟩⟩⟩
set_option maxRecDepth 100000 in
set_option maxHeartbeats 4000000 in
theorem si181_2 (X : CX) (l : Launch) : ∀ q ∈ ([(200, iP 201 (f2I (fun x y => x + y))), (201, iRI 202 qAI), (202, iP 203 (fAld 0)), (203, iP 204 (fIld 3)), (204, iP 205 (fK (.inl 4))), (205, iP 206 (f2I (fun x y => x + y))), (206, iRI 207 qAI), (207, iP 208 (fAld 0)), (208, iP 209 (fIld 3)), (209, iP 210 (fK (.inl 5))), (210, iP 211 (f2I (fun x y => x + y))), (211, iRI 212 qAI), (212, iP 213 (fAld 0)), (213, iP 214 (fIld 3)), (214, iP 216 (fK (.inl 6))), (216, iP 217 (f2I (fun x y => x + y))), (217, iRI 218 qAI), (218, iP 219 (fAld 0)), (219, iP 220 (fIld 3)), (220, iP 222 (fK (.inl 7))), (222, iP 223 (f2I (fun x y => x + y))), (223, iRI 224 qAI), (224, iCK 227 12 129 8 8 1), (227, iB 230 901 (b2 (fun x y => decide (x = y)))), (230, iP 231 (fK (.inl 0))), (231, iRet rZ), (232, iP 233 (fAld 1)), (233, iP 234 (fAld 0)), (234, iP 235 (fIld 3)), (235, iP 236 (fK (.inl 1))), (236, iP 237 (f2I (fun x y => x + y))), (237, iRI 238 qAI), (238, iP 239 (fAld 0)), (239, iP 240 (fIld 3)), (240, iP 241 (fK (.inl 2))), (241, iP 242 (f2I (fun x y => x + y))), (242, iRI 243 qAI), (243, iCK 246 11 14 4 3 1), (246, iP 247 (fAld 2)), (247, iP 248 (fAld 0))] : List (Nat × AS)), SI X l 181 q.1 q.2 := List.forall_mem_cons.mpr ⟨
  s_iadd (show decode (cod 181) 200 = .ok (.iadd, 1) by decide +kernel), List.forall_mem_cons.mpr ⟨
  s_iaload (show decode (cod 181) 201 = .ok (.iaload, 1) by decide +kernel), List.forall_mem_cons.mpr ⟨
  s_aload_n (k := 0) (show decode (cod 181) 202 = .ok (.aload_n 0, 1) by decide +kernel), List.forall_mem_cons.mpr ⟨
  s_iload_n (k := 3) (show decode (cod 181) 203 = .ok (.iload_n 3, 1) by decide +kernel), List.forall_mem_cons.mpr ⟨
  s_iconst (show decode (cod 181) 204 = .ok (.iconst 4, 1) by decide +kernel) rfl, List.forall_mem_cons.mpr ⟨
  s_iadd (show decode (cod 181) 205 = .ok (.iadd, 1) by decide +kernel), List.forall_mem_cons.mpr ⟨
  s_iaload (show decode (cod 181) 206 = .ok (.iaload, 1) by decide +kernel), List.forall_mem_cons.mpr ⟨
  s_aload_n (k := 0) (show decode (cod 181) 207 = .ok (.aload_n 0, 1) by decide +kernel), List.forall_mem_cons.mpr ⟨
  s_iload_n (k := 3) (show decode (cod 181) 208 = .ok (.iload_n 3, 1) by decide +kernel), List.forall_mem_cons.mpr ⟨
  s_iconst (show decode (cod 181) 209 = .ok (.iconst 5, 1) by decide +kernel) rfl, List.forall_mem_cons.mpr ⟨
  s_iadd (show decode (cod 181) 210 = .ok (.iadd, 1) by decide +kernel), List.forall_mem_cons.mpr ⟨
  s_iaload (show decode (cod 181) 211 = .ok (.iaload, 1) by decide +kernel), List.forall_mem_cons.mpr ⟨
  s_aload_n (k := 0) (show decode (cod 181) 212 = .ok (.aload_n 0, 1) by decide +kernel), List.forall_mem_cons.mpr ⟨
  s_iload_n (k := 3) (show decode (cod 181) 213 = .ok (.iload_n 3, 1) by decide +kernel), List.forall_mem_cons.mpr ⟨
  s_bipush (show decode (cod 181) 214 = .ok (.bipush 6, 2) by decide +kernel) rfl, List.forall_mem_cons.mpr ⟨
  s_iadd (show decode (cod 181) 216 = .ok (.iadd, 1) by decide +kernel), List.forall_mem_cons.mpr ⟨
  s_iaload (show decode (cod 181) 217 = .ok (.iaload, 1) by decide +kernel), List.forall_mem_cons.mpr ⟨
  s_aload_n (k := 0) (show decode (cod 181) 218 = .ok (.aload_n 0, 1) by decide +kernel), List.forall_mem_cons.mpr ⟨
  s_iload_n (k := 3) (show decode (cod 181) 219 = .ok (.iload_n 3, 1) by decide +kernel), List.forall_mem_cons.mpr ⟨
  s_bipush (show decode (cod 181) 220 = .ok (.bipush 7, 2) by decide +kernel) rfl, List.forall_mem_cons.mpr ⟨
  s_iadd (show decode (cod 181) 222 = .ok (.iadd, 1) by decide +kernel), List.forall_mem_cons.mpr ⟨
  s_iaload (show decode (cod 181) 223 = .ok (.iaload, 1) by decide +kernel), List.forall_mem_cons.mpr ⟨
  s_invK rfl (rcv_virt (show decode (cod 181) 224 = .ok (.invokevirtual 22, 3) by decide +kernel) cld_181_129 ⟨11, _, _, rfl, by decide, rfl⟩ wd_816 wd_817 wd_818), List.forall_mem_cons.mpr ⟨
  s_icmpeq (show decode (cod 181) 227 = .ok (.if_icmp .eq 674, 3) by decide +kernel) (by decide), List.forall_mem_cons.mpr ⟨
  s_iconst (show decode (cod 181) 230 = .ok (.iconst 0, 1) by decide +kernel) rfl, List.forall_mem_cons.mpr ⟨
  s_ret (show decode (cod 181) 231 = .ok (.ireturn, 1) by decide +kernel) rZ_ok (fun _ => rZ_b), List.forall_mem_cons.mpr ⟨
  s_aload_n (k := 1) (show decode (cod 181) 232 = .ok (.aload_n 1, 1) by decide +kernel), List.forall_mem_cons.mpr ⟨
  s_aload_n (k := 0) (show decode (cod 181) 233 = .ok (.aload_n 0, 1) by decide +kernel), List.forall_mem_cons.mpr ⟨
  s_iload_n (k := 3) (show decode (cod 181) 234 = .ok (.iload_n 3, 1) by decide +kernel), List.forall_mem_cons.mpr ⟨
  s_iconst (show decode (cod 181) 235 = .ok (.iconst 1, 1) by decide +kernel) rfl, List.forall_mem_cons.mpr ⟨
  s_iadd (show decode (cod 181) 236 = .ok (.iadd, 1) by decide +kernel), List.forall_mem_cons.mpr ⟨
  s_iaload (show decode (cod 181) 237 = .ok (.iaload, 1) by decide +kernel), List.forall_mem_cons.mpr ⟨
  s_aload_n (k := 0) (show decode (cod 181) 238 = .ok (.aload_n 0, 1) by decide +kernel), List.forall_mem_cons.mpr ⟨
  s_iload_n (k := 3) (show decode (cod 181) 239 = .ok (.iload_n 3, 1) by decide +kernel), List.forall_mem_cons.mpr ⟨
  s_iconst (show decode (cod 181) 240 = .ok (.iconst 2, 1) by decide +kernel) rfl, List.forall_mem_cons.mpr ⟨
  s_iadd (show decode (cod 181) 241 = .ok (.iadd, 1) by decide +kernel), List.forall_mem_cons.mpr ⟨
  s_iaload (show decode (cod 181) 242 = .ok (.iaload, 1) by decide +kernel), List.forall_mem_cons.mpr ⟨
  s_invK rfl (rcv_virt (show decode (cod 181) 243 = .ok (.invokevirtual 23, 3) by decide +kernel) cld_181_14 ⟨10, _, _, rfl, by decide, rfl⟩ wd_820 wd_821 wd_822), List.forall_mem_cons.mpr ⟨
  s_aload_n (k := 2) (show decode (cod 181) 246 = .ok (.aload_n 2, 1) by decide +kernel), List.forall_mem_cons.mpr ⟨
  s_aload_n (k := 0) (show decode (cod 181) 247 = .ok (.aload_n 0, 1) by decide +kernel), fun _ h => by cases h⟩⟩⟩⟩⟩⟩⟩⟩⟩⟩⟩⟩⟩⟩⟩⟩⟩⟩⟩⟩⟩⟩⟩⟩⟩⟩⟩⟩⟩⟩⟩⟩⟩⟩⟩⟩⟩⟩⟩⟩
set_option maxRecDepth 100000 in
set_option maxHeartbeats 4000000 in
theorem si181_3 (X : CX) (l : Launch) : ∀ q ∈ ([(248, iP 249 (fIld 3)), (249, iP 250 (fK (.inl 1))), (250, iP 251 (f2I (fun x y => x + y))), (251, iRI 252 qAI), (252, iP 253 (fAld 0)), (253, iP 254 (fIld 3)), (254, iP 255 (fK (.inl 2))), (255, iP 256 (f2I (fun x y => x + y))), (256, iRI 257 qAI), (257, iCK 260 12 131 3 3 1), (260, iB 263 901 (b2 (fun x y => decide (x = y)))), (263, iP 264 (fK (.inl 0))), (264, iRet rZ), (265, iP 266 (fAld 1)), (266, iP 267 (fAld 0)), (267, iP 268 (fIld 3)), (268, iP 269 (fK (.inl 1))), (269, iP 270 (f2I (fun x y => x + y))), (270, iRI 271 qAI), (271, iCK 274 11 30 4 2 1), (274, iP 275 (fAld 2)), (275, iP 276 (fAld 0)), (276, iP 277 (fIld 3)), (277, iP 278 (fK (.inl 1))), (278, iP 279 (f2I (fun x y => x + y))), (279, iRI 280 qAI), (280, iCK 283 12 134 2 2 1), (283, iB 286 901 (b2 (fun x y => decide (x = y)))), (286, iP 287 (fK (.inl 0))), (287, iRet rZ), (288, iP 289 (fAld 1)), (289, iP 290 (fAld 0)), (290, iP 291 (fIld 3)), (291, iP 292 (fK (.inl 1))), (292, iP 293 (f2I (fun x y => x + y))), (293, iRI 294 qAI), (294, iP 295 (fAld 0)), (295, iP 296 (fIld 3)), (296, iP 297 (fK (.inl 2))), (297, iP 298 (f2I (fun x y => x + y)))] : List (Nat × AS)), SI X l 181 q.1 q.2 := List.forall_mem_cons.mpr ⟨
  s_iload_n (k := 3) (show decode (cod 181) 248 = .ok (.iload_n 3, 1) by decide +kernel), List.forall_mem_cons.mpr ⟨
  s_iconst (show decode (cod 181) 249 = .ok (.iconst 1, 1) by decide +kernel) rfl, List.forall_mem_cons.mpr ⟨
  s_iadd (show decode (cod 181) 250 = .ok (.iadd, 1) by decide +kernel), List.forall_mem_cons.mpr ⟨
  s_iaload (show decode (cod 181) 251 = .ok (.iaload, 1) by decide +kernel), List.forall_mem_cons.mpr ⟨
  s_aload_n (k := 0) (show decode (cod 181) 252 = .ok (.aload_n 0, 1) by decide +kernel), List.forall_mem_cons.mpr ⟨
  s_iload_n (k := 3) (show decode (cod 181) 253 = .ok (.iload_n 3, 1) by decide +kernel), List.forall_mem_cons.mpr ⟨
  s_iconst (show decode (cod 181) 254 = .ok (.iconst 2, 1) by decide +kernel) rfl, List.forall_mem_cons.mpr ⟨
  s_iadd (show decode (cod 181) 255 = .ok (.iadd, 1) by decide +kernel), List.forall_mem_cons.mpr ⟨
  s_iaload (show decode (cod 181) 256 = .ok (.iaload, 1) by decide +kernel), List.forall_mem_cons.mpr ⟨
  s_invK rfl (rcv_virt (show decode (cod 181) 257 = .ok (.invokevirtual 27, 3) by decide +kernel) cld_181_131 ⟨11, _, _, rfl, by decide, rfl⟩ wd_824 wd_825 wd_826), List.forall_mem_cons.mpr ⟨
  s_icmpeq (show decode (cod 181) 260 = .ok (.if_icmp .eq 641, 3) by decide +kernel) (by decide), List.forall_mem_cons.mpr ⟨
  s_iconst (show decode (cod 181) 263 = .ok (.iconst 0, 1) by decide +kernel) rfl, List.forall_mem_cons.mpr ⟨
  s_ret (show decode (cod 181) 264 = .ok (.ireturn, 1) by decide +kernel) rZ_ok (fun _ => rZ_b), List.forall_mem_cons.mpr ⟨
  s_aload_n (k := 1) (show decode (cod 181) 265 = .ok (.aload_n 1, 1) by decide +kernel), List.forall_mem_cons.mpr ⟨
  s_aload_n (k := 0) (show decode (cod 181) 266 = .ok (.aload_n 0, 1) by decide +kernel), List.forall_mem_cons.mpr ⟨
  s_iload_n (k := 3) (show decode (cod 181) 267 = .ok (.iload_n 3, 1) by decide +kernel), List.forall_mem_cons.mpr ⟨
  s_iconst (show decode (cod 181) 268 = .ok (.iconst 1, 1) by decide +kernel) rfl, List.forall_mem_cons.mpr ⟨
  s_iadd (show decode (cod 181) 269 = .ok (.iadd, 1) by decide +kernel), List.forall_mem_cons.mpr ⟨
  s_iaload (show decode (cod 181) 270 = .ok (.iaload, 1) by decide +kernel), List.forall_mem_cons.mpr ⟨
  s_invK rfl (rcv_virt (show decode (cod 181) 271 = .ok (.invokevirtual 28, 3) by decide +kernel) cld_181_30 ⟨10, _, _, rfl, by decide, rfl⟩ wd_828 wd_829 wd_830), List.forall_mem_cons.mpr ⟨
  s_aload_n (k := 2) (show decode (cod 181) 274 = .ok (.aload_n 2, 1) by decide +kernel), List.forall_mem_cons.mpr ⟨
  s_aload_n (k := 0) (show decode (cod 181) 275 = .ok (.aload_n 0, 1) by decide +kernel), List.forall_mem_cons.mpr ⟨
  s_iload_n (k := 3) (show decode (cod 181) 276 = .ok (.iload_n 3, 1) by decide +kernel), List.forall_mem_cons.mpr ⟨
  s_iconst (show decode (cod 181) 277 = .ok (.iconst 1, 1) by decide +kernel) rfl, List.forall_mem_cons.mpr ⟨
  s_iadd (show decode (cod 181) 278 = .ok (.iadd, 1) by decide +kernel), List.forall_mem_cons.mpr ⟨
  s_iaload (show decode (cod 181) 279 = .ok (.iaload, 1) by decide +kernel), List.forall_mem_cons.mpr ⟨
  s_invK rfl (rcv_virt (show decode (cod 181) 280 = .ok (.invokevirtual 32, 3) by decide +kernel) cld_181_134 ⟨11, _, _, rfl, by decide, rfl⟩ wd_832 wd_833 wd_834), List.forall_mem_cons.mpr ⟨
  s_icmpeq (show decode (cod 181) 283 = .ok (.if_icmp .eq 618, 3) by decide +kernel) (by decide), List.forall_mem_cons.mpr ⟨
  s_iconst (show decode (cod 181) 286 = .ok (.iconst 0, 1) by decide +kernel) rfl, List.forall_mem_cons.mpr ⟨
  s_ret (show decode (cod 181) 287 = .ok (.ireturn, 1) by decide +kernel) rZ_ok (fun _ => rZ_b), List.forall_mem_cons.mpr ⟨
  s_aload_n (k := 1) (show decode (cod 181) 288 = .ok (.aload_n 1, 1) by decide +kernel), List.forall_mem_cons.mpr ⟨
  s_aload_n (k := 0) (show decode (cod 181) 289 = .ok (.aload_n 0, 1) by decide +kernel), List.forall_mem_cons.mpr ⟨
  s_iload_n (k := 3) (show decode (cod 181) 290 = .ok (.iload_n 3, 1) by decide +kernel), List.forall_mem_cons.mpr ⟨
  s_iconst (show decode (cod 181) 291 = .ok (.iconst 1, 1) by decide +kernel) rfl, List.forall_mem_cons.mpr ⟨
  s_iadd (show decode (cod 181) 292 = .ok (.iadd, 1) by decide +kernel), List.forall_mem_cons.mpr ⟨
  s_iaload (show decode (cod 181) 293 = .ok (.iaload, 1) by decide +kernel), List.forall_mem_cons.mpr ⟨
  s_aload_n (k := 0) (show decode (cod 181) 294 = .ok (.aload_n 0, 1) by decide +kernel), List.forall_mem_cons.mpr ⟨
  s_iload_n (k := 3) (show decode (cod 181) 295 = .ok (.iload_n 3, 1) by decide +kernel), List.forall_mem_cons.mpr ⟨
  s_iconst (show decode (cod 181) 296 = .ok (.iconst 2, 1) by decide +kernel) rfl, List.forall_mem_cons.mpr ⟨
  s_iadd (show decode (cod 181) 297 = .ok (.iadd, 1) by decide +kernel), fun _ h => by cases h⟩⟩⟩⟩⟩⟩⟩⟩⟩⟩⟩⟩⟩⟩⟩⟩⟩⟩⟩⟩⟩⟩⟩⟩⟩⟩⟩⟩⟩⟩⟩⟩⟩⟩⟩⟩⟩⟩⟩⟩
set_option maxRecDepth 100000 in
set_option maxHeartbeats 4000000 in
theorem si181_4 (X : CX) (l : Launch) : ∀ q ∈ ([(298, iRI 299 qAI), (299, iCK 302 11 33 7 3 1), (302, iP 303 (fAld 2)), (303, iP 304 (fAld 0)), (304, iP 305 (fIld 3)), (305, iP 306 (fK (.inl 1))), (306, iP 307 (f2I (fun x y => x + y))), (307, iRI 308 qAI), (308, iP 309 (fAld 0)), (309, iP 310 (fIld 3)), (310, iP 311 (fK (.inl 2))), (311, iP 312 (f2I (fun x y => x + y))), (312, iRI 313 qAI), (313, iCK 316 12 136 3 3 1), (316, iB 319 901 (b2 (fun x y => decide (x = y)))), (319, iP 320 (fK (.inl 0))), (320, iRet rZ), (321, iP 322 (fAld 1)), (322, iP 323 (fAld 0)), (323, iP 324 (fIld 3)), (324, iP 325 (fK (.inl 1))), (325, iP 326 (f2I (fun x y => x + y))), (326, iRI 327 qAI), (327, iCK 330 11 35 3 2 1), (330, iP 331 (fAld 2)), (331, iP 332 (fAld 0)), (332, iP 333 (fIld 3)), (333, iP 334 (fK (.inl 1))), (334, iP 335 (f2I (fun x y => x + y))), (335, iRI 336 qAI), (336, iCK 339 12 137 2 2 1), (339, iB 342 901 (b2 (fun x y => decide (x = y)))), (342, iP 343 (fK (.inl 0))), (343, iRet rZ), (344, iP 345 (fAld 1)), (345, iP 346 (fAld 0)), (346, iP 347 (fIld 3)), (347, iP 348 (fK (.inl 1))), (348, iP 349 (f2I (fun x y => x + y))), (349, iRI 350 qAI)] : List (Nat × AS)), SI X l 181 q.1 q.2 := List.forall_mem_cons.mpr ⟨
  s_iaload (show decode (cod 181) 298 = .ok (.iaload, 1) by decide +kernel), List.forall_mem_cons.mpr ⟨
  s_invK rfl (rcv_virt (show decode (cod 181) 299 = .ok (.invokevirtual 33, 3) by decide +kernel) cld_181_33 ⟨10, _, _, rfl, by decide, rfl⟩ wd_836 wd_837 wd_838), List.forall_mem_cons.mpr ⟨
  s_aload_n (k := 2) (show decode (cod 181) 302 = .ok (.aload_n 2, 1) by decide +kernel), List.forall_mem_cons.mpr ⟨
  s_aload_n (k := 0) (show decode (cod 181) 303 = .ok (.aload_n 0, 1) by decide +kernel), List.forall_mem_cons.mpr ⟨
  s_iload_n (k := 3) (show decode (cod 181) 304 = .ok (.iload_n 3, 1) by decide +kernel), List.forall_mem_cons.mpr ⟨
  s_iconst (show decode (cod 181) 305 = .ok (.iconst 1, 1) by decide +kernel) rfl, List.forall_mem_cons.mpr ⟨
  s_iadd (show decode (cod 181) 306 = .ok (.iadd, 1) by decide +kernel), List.forall_mem_cons.mpr ⟨
  s_iaload (show decode (cod 181) 307 = .ok (.iaload, 1) by decide +kernel), List.forall_mem_cons.mpr ⟨
  s_aload_n (k := 0) (show decode (cod 181) 308 = .ok (.aload_n 0, 1) by decide +kernel), List.forall_mem_cons.mpr ⟨
  s_iload_n (k := 3) (show decode (cod 181) 309 = .ok (.iload_n 3, 1) by decide +kernel), List.forall_mem_cons.mpr ⟨
  s_iconst (show decode (cod 181) 310 = .ok (.iconst 2, 1) by decide +kernel) rfl, List.forall_mem_cons.mpr ⟨
  s_iadd (show decode (cod 181) 311 = .ok (.iadd, 1) by decide +kernel), List.forall_mem_cons.mpr ⟨
  s_iaload (show decode (cod 181) 312 = .ok (.iaload, 1) by decide +kernel), List.forall_mem_cons.mpr ⟨
  s_invK rfl (rcv_virt (show decode (cod 181) 313 = .ok (.invokevirtual 36, 3) by decide +kernel) cld_181_136 ⟨11, _, _, rfl, by decide, rfl⟩ wd_840 wd_841 wd_842), List.forall_mem_cons.mpr ⟨
  s_icmpeq (show decode (cod 181) 316 = .ok (.if_icmp .eq 585, 3) by decide +kernel) (by decide), List.forall_mem_cons.mpr ⟨
  s_iconst (show decode (cod 181) 319 = .ok (.iconst 0, 1) by decide +kernel) rfl, List.forall_mem_cons.mpr ⟨
  s_ret (show decode (cod 181) 320 = .ok (.ireturn, 1) by decide +kernel) rZ_ok (fun _ => rZ_b), List.forall_mem_cons.mpr ⟨
  s_aload_n (k := 1) (show decode (cod 181) 321 = .ok (.aload_n 1, 1) by decide +kernel), List.forall_mem_cons.mpr ⟨
  s_aload_n (k := 0) (show decode (cod 181) 322 = .ok (.aload_n 0, 1) by decide +kernel), List.forall_mem_cons.mpr ⟨
  s_iload_n (k := 3) (show decode (cod 181) 323 = .ok (.iload_n 3, 1) by decide +kernel), List.forall_mem_cons.mpr ⟨
  s_iconst (show decode (cod 181) 324 = .ok (.iconst 1, 1) by decide +kernel) rfl, List.forall_mem_cons.mpr ⟨
  s_iadd (show decode (cod 181) 325 = .ok (.iadd, 1) by decide +kernel), List.forall_mem_cons.mpr ⟨
  s_iaload (show decode (cod 181) 326 = .ok (.iaload, 1) by decide +kernel), List.forall_mem_cons.mpr ⟨
  s_invK rfl (rcv_virt (show decode (cod 181) 327 = .ok (.invokevirtual 37, 3) by decide +kernel) cld_181_35 ⟨10, _, _, rfl, by decide, rfl⟩ wd_844 wd_845 wd_846), List.forall_mem_cons.mpr ⟨
  s_aload_n (k := 2) (show decode (cod 181) 330 = .ok (.aload_n 2, 1) by decide +kernel), List.forall_mem_cons.mpr ⟨
  s_aload_n (k := 0) (show decode (cod 181) 331 = .ok (.aload_n 0, 1) by decide +kernel), List.forall_mem_cons.mpr ⟨
  s_iload_n (k := 3) (show decode (cod 181) 332 = .ok (.iload_n 3, 1) by decide +kernel), List.forall_mem_cons.mpr ⟨
  s_iconst (show decode (cod 181) 333 = .ok (.iconst 1, 1) by decide +kernel) rfl, List.forall_mem_cons.mpr ⟨
  s_iadd (show decode (cod 181) 334 = .ok (.iadd, 1) by decide +kernel), List.forall_mem_cons.mpr ⟨
  s_iaload (show decode (cod 181) 335 = .ok (.iaload, 1) by decide +kernel), List.forall_mem_cons.mpr ⟨
  s_invK rfl (rcv_virt (show decode (cod 181) 336 = .ok (.invokevirtual 40, 3) by decide +kernel) cld_181_137 ⟨11, _, _, rfl, by decide, rfl⟩ wd_848 wd_849 wd_850), List.forall_mem_cons.mpr ⟨
  s_icmpeq (show decode (cod 181) 339 = .ok (.if_icmp .eq 562, 3) by decide +kernel) (by decide), List.forall_mem_cons.mpr ⟨
  s_iconst (show decode (cod 181) 342 = .ok (.iconst 0, 1) by decide +kernel) rfl, List.forall_mem_cons.mpr ⟨
  s_ret (show decode (cod 181) 343 = .ok (.ireturn, 1) by decide +kernel) rZ_ok (fun _ => rZ_b), List.forall_mem_cons.mpr ⟨
  s_aload_n (k := 1) (show decode (cod 181) 344 = .ok (.aload_n 1, 1) by decide +kernel), List.forall_mem_cons.mpr ⟨
  s_aload_n (k := 0) (show decode (cod 181) 345 = .ok (.aload_n 0, 1) by decide +kernel), List.forall_mem_cons.mpr ⟨
  s_iload_n (k := 3) (show decode (cod 181) 346 = .ok (.iload_n 3, 1) by decide +kernel), List.forall_mem_cons.mpr ⟨
  s_iconst (show decode (cod 181) 347 = .ok (.iconst 1, 1) by decide +kernel) rfl, List.forall_mem_cons.mpr ⟨
  s_iadd (show decode (cod 181) 348 = .ok (.iadd, 1) by decide +kernel), List.forall_mem_cons.mpr ⟨
  s_iaload (show decode (cod 181) 349 = .ok (.iaload, 1) by decide +kernel), fun _ h => by cases h⟩⟩⟩⟩⟩⟩⟩⟩⟩⟩⟩⟩⟩⟩⟩⟩⟩⟩⟩⟩⟩⟩⟩⟩⟩⟩⟩⟩⟩⟩⟩⟩⟩⟩⟩⟩⟩⟩⟩⟩
set_option maxRecDepth 100000 in
set_option maxHeartbeats 4000000 in
theorem si181_5 (X : CX) (l : Launch) : ∀ q ∈ ([(350, iP 351 (fAld 0)), (351, iP 352 (fIld 3)), (352, iP 353 (fK (.inl 2))), (353, iP 354 (f2I (fun x y => x + y))), (354, iRI 355 qAI), (355, iCK 358 11 37 5 3 1), (358, iP 359 (fAld 2)), (359, iP 360 (fAld 0)), (360, iP 361 (fIld 3)), (361, iP 362 (fK (.inl 1))), (362, iP 363 (f2I (fun x y => x + y))), (363, iRI 364 qAI), (364, iP 365 (fAld 0)), (365, iP 366 (fIld 3)), (366, iP 367 (fK (.inl 2))), (367, iP 368 (f2I (fun x y => x + y))), (368, iRI 369 qAI), (369, iCK 372 12 138 4 3 1), (372, iB 375 901 (b2 (fun x y => decide (x = y)))), (375, iP 376 (fK (.inl 0))), (376, iRet rZ), (377, iP 378 (fAld 1)), (378, iP 379 (fAld 0)), (379, iP 380 (fIld 3)), (380, iP 381 (fK (.inl 1))), (381, iP 382 (f2I (fun x y => x + y))), (382, iRI 383 qAI), (383, iCK 386 11 42 3 2 1), (386, iP 387 (fAld 2)), (387, iP 388 (fAld 0)), (388, iP 389 (fIld 3)), (389, iP 390 (fK (.inl 1))), (390, iP 391 (f2I (fun x y => x + y))), (391, iRI 392 qAI), (392, iCK 395 12 139 2 2 1), (395, iB 398 901 (b2 (fun x y => decide (x = y)))), (398, iP 399 (fK (.inl 0))), (399, iRet rZ), (400, iP 401 (fAld 1)), (401, iP 402 (fAld 0))] : List (Nat × AS)), SI X l 181 q.1 q.2 := List.forall_mem_cons.mpr ⟨
  s_aload_n (k := 0) (show decode (cod 181) 350 = .ok (.aload_n 0, 1) by decide +kernel), List.forall_mem_cons.mpr ⟨
  s_iload_n (k := 3) (show decode (cod 181) 351 = .ok (.iload_n 3, 1) by decide +kernel), List.forall_mem_cons.mpr ⟨
  s_iconst (show decode (cod 181) 352 = .ok (.iconst 2, 1) by decide +kernel) rfl, List.forall_mem_cons.mpr ⟨
  s_iadd (show decode (cod 181) 353 = .ok (.iadd, 1) by decide +kernel), List.forall_mem_cons.mpr ⟨
  s_iaload (show decode (cod 181) 354 = .ok (.iaload, 1) by decide +kernel), List.forall_mem_cons.mpr ⟨
  s_invK rfl (rcv_virt (show decode (cod 181) 355 = .ok (.invokevirtual 41, 3) by decide +kernel) cld_181_37 ⟨10, _, _, rfl, by decide, rfl⟩ wd_852 wd_853 wd_854), List.forall_mem_cons.mpr ⟨
  s_aload_n (k := 2) (show decode (cod 181) 358 = .ok (.aload_n 2, 1) by decide +kernel), List.forall_mem_cons.mpr ⟨
  s_aload_n (k := 0) (show decode (cod 181) 359 = .ok (.aload_n 0, 1) by decide +kernel), List.forall_mem_cons.mpr ⟨
  s_iload_n (k := 3) (show decode (cod 181) 360 = .ok (.iload_n 3, 1) by decide +kernel), List.forall_mem_cons.mpr ⟨
  s_iconst (show decode (cod 181) 361 = .ok (.iconst 1, 1) by decide +kernel) rfl, List.forall_mem_cons.mpr ⟨
  s_iadd (show decode (cod 181) 362 = .ok (.iadd, 1) by decide +kernel), List.forall_mem_cons.mpr ⟨
  s_iaload (show decode (cod 181) 363 = .ok (.iaload, 1) by decide +kernel), List.forall_mem_cons.mpr ⟨
  s_aload_n (k := 0) (show decode (cod 181) 364 = .ok (.aload_n 0, 1) by decide +kernel), List.forall_mem_cons.mpr ⟨
  s_iload_n (k := 3) (show decode (cod 181) 365 = .ok (.iload_n 3, 1) by decide +kernel), List.forall_mem_cons.mpr ⟨
  s_iconst (show decode (cod 181) 366 = .ok (.iconst 2, 1) by decide +kernel) rfl, List.forall_mem_cons.mpr ⟨
  s_iadd (show decode (cod 181) 367 = .ok (.iadd, 1) by decide +kernel), List.forall_mem_cons.mpr ⟨
  s_iaload (show decode (cod 181) 368 = .ok (.iaload, 1) by decide +kernel), List.forall_mem_cons.mpr ⟨
  s_invK rfl (rcv_virt (show decode (cod 181) 369 = .ok (.invokevirtual 44, 3) by decide +kernel) cld_181_138 ⟨11, _, _, rfl, by decide, rfl⟩ wd_856 wd_857 wd_858), List.forall_mem_cons.mpr ⟨
  s_icmpeq (show decode (cod 181) 372 = .ok (.if_icmp .eq 529, 3) by decide +kernel) (by decide), List.forall_mem_cons.mpr ⟨
  s_iconst (show decode (cod 181) 375 = .ok (.iconst 0, 1) by decide +kernel) rfl, List.forall_mem_cons.mpr ⟨
  s_ret (show decode (cod 181) 376 = .ok (.ireturn, 1) by decide +kernel) rZ_ok (fun _ => rZ_b), List.forall_mem_cons.mpr ⟨
  s_aload_n (k := 1) (show decode (cod 181) 377 = .ok (.aload_n 1, 1) by decide +kernel), List.forall_mem_cons.mpr ⟨
  s_aload_n (k := 0) (show decode (cod 181) 378 = .ok (.aload_n 0, 1) by decide +kernel), List.forall_mem_cons.mpr ⟨
  s_iload_n (k := 3) (show decode (cod 181) 379 = .ok (.iload_n 3, 1) by decide +kernel), List.forall_mem_cons.mpr ⟨
  s_iconst (show decode (cod 181) 380 = .ok (.iconst 1, 1) by decide +kernel) rfl, List.forall_mem_cons.mpr ⟨
  s_iadd (show decode (cod 181) 381 = .ok (.iadd, 1) by decide +kernel), List.forall_mem_cons.mpr ⟨
  s_iaload (show decode (cod 181) 382 = .ok (.iaload, 1) by decide +kernel), List.forall_mem_cons.mpr ⟨
  s_invK rfl (rcv_virt (show decode (cod 181) 383 = .ok (.invokevirtual 45, 3) by decide +kernel) cld_181_42 ⟨10, _, _, rfl, by decide, rfl⟩ wd_860 wd_861 wd_862), List.forall_mem_cons.mpr ⟨
  s_aload_n (k := 2) (show decode (cod 181) 386 = .ok (.aload_n 2, 1) by decide +kernel), List.forall_mem_cons.mpr ⟨
  s_aload_n (k := 0) (show decode (cod 181) 387 = .ok (.aload_n 0, 1) by decide +kernel), List.forall_mem_cons.mpr ⟨
  s_iload_n (k := 3) (show decode (cod 181) 388 = .ok (.iload_n 3, 1) by decide +kernel), List.forall_mem_cons.mpr ⟨
  s_iconst (show decode (cod 181) 389 = .ok (.iconst 1, 1) by decide +kernel) rfl, List.forall_mem_cons.mpr ⟨
  s_iadd (show decode (cod 181) 390 = .ok (.iadd, 1) by decide +kernel), List.forall_mem_cons.mpr ⟨
  s_iaload (show decode (cod 181) 391 = .ok (.iaload, 1) by decide +kernel), List.forall_mem_cons.mpr ⟨
  s_invK rfl (rcv_virt (show decode (cod 181) 392 = .ok (.invokevirtual 48, 3) by decide +kernel) cld_181_139 ⟨11, _, _, rfl, by decide, rfl⟩ wd_864 wd_865 wd_866), List.forall_mem_cons.mpr ⟨
  s_icmpeq (show decode (cod 181) 395 = .ok (.if_icmp .eq 506, 3) by decide +kernel) (by decide), List.forall_mem_cons.mpr ⟨
  s_iconst (show decode (cod 181) 398 = .ok (.iconst 0, 1) by decide +kernel) rfl, List.forall_mem_cons.mpr ⟨
  s_ret (show decode (cod 181) 399 = .ok (.ireturn, 1) by decide +kernel) rZ_ok (fun _ => rZ_b), List.forall_mem_cons.mpr ⟨
  s_aload_n (k := 1) (show decode (cod 181) 400 = .ok (.aload_n 1, 1) by decide +kernel), List.forall_mem_cons.mpr ⟨
  s_aload_n (k := 0) (show decode (cod 181) 401 = .ok (.aload_n 0, 1) by decide +kernel), fun _ h => by cases h⟩⟩⟩⟩⟩⟩⟩⟩⟩⟩⟩⟩⟩⟩⟩⟩⟩⟩⟩⟩⟩⟩⟩⟩⟩⟩⟩⟩⟩⟩⟩⟩⟩⟩⟩⟩⟩⟩⟩⟩
set_option maxRecDepth 100000 in
set_option maxHeartbeats 4000000 in
theorem si181_6 (X : CX) (l : Launch) : ∀ q ∈ ([(402, iP 403 (fIld 3)), (403, iP 404 (fK (.inl 1))), (404, iP 405 (f2I (fun x y => x + y))), (405, iRI 406 qAI), (406, iP 407 (fAld 0)), (407, iP 408 (fIld 3)), (408, iP 409 (fK (.inl 2))), (409, iP 410 (f2I (fun x y => x + y))), (410, iRI 411 qAI), (411, iCK 414 11 44 4 3 1), (414, iP 415 (fAld 2)), (415, iP 416 (fAld 0)), (416, iP 417 (fIld 3)), (417, iP 418 (fK (.inl 1))), (418, iP 419 (f2I (fun x y => x + y))), (419, iRI 420 qAI), (420, iP 421 (fAld 0)), (421, iP 422 (fIld 3)), (422, iP 423 (fK (.inl 2))), (423, iP 424 (f2I (fun x y => x + y))), (424, iRI 425 qAI), (425, iCK 428 12 140 3 3 1), (428, iB 431 901 (b2 (fun x y => decide (x = y)))), (431, iP 432 (fK (.inl 0))), (432, iRet rZ), (433, iP 434 (fAld 1)), (434, iP 435 (fAld 0)), (435, iP 436 (fIld 3)), (436, iP 437 (fK (.inl 1))), (437, iP 438 (f2I (fun x y => x + y))), (438, iRI 439 qAI), (439, iP 440 (fAld 0)), (440, iP 441 (fIld 3)), (441, iP 442 (fK (.inl 2))), (442, iP 443 (f2I (fun x y => x + y))), (443, iRI 444 qAI), (444, iP 445 (fAld 0)), (445, iP 446 (fIld 3)), (446, iP 447 (fK (.inl 3))), (447, iP 448 (f2I (fun x y => x + y)))] : List (Nat × AS)), SI X l 181 q.1 q.2 := List.forall_mem_cons.mpr ⟨
  s_iload_n (k := 3) (show decode (cod 181) 402 = .ok (.iload_n 3, 1) by decide +kernel), List.forall_mem_cons.mpr ⟨
  s_iconst (show decode (cod 181) 403 = .ok (.iconst 1, 1) by decide +kernel) rfl, List.forall_mem_cons.mpr ⟨
  s_iadd (show decode (cod 181) 404 = .ok (.iadd, 1) by decide +kernel), List.forall_mem_cons.mpr ⟨
  s_iaload (show decode (cod 181) 405 = .ok (.iaload, 1) by decide +kernel), List.forall_mem_cons.mpr ⟨
  s_aload_n (k := 0) (show decode (cod 181) 406 = .ok (.aload_n 0, 1) by decide +kernel), List.forall_mem_cons.mpr ⟨
  s_iload_n (k := 3) (show decode (cod 181) 407 = .ok (.iload_n 3, 1) by decide +kernel), List.forall_mem_cons.mpr ⟨
  s_iconst (show decode (cod 181) 408 = .ok (.iconst 2, 1) by decide +kernel) rfl, List.forall_mem_cons.mpr ⟨
  s_iadd (show decode (cod 181) 409 = .ok (.iadd, 1) by decide +kernel), List.forall_mem_cons.mpr ⟨
  s_iaload (show decode (cod 181) 410 = .ok (.iaload, 1) by decide +kernel), List.forall_mem_cons.mpr ⟨
  s_invK rfl (rcv_virt (show decode (cod 181) 411 = .ok (.invokevirtual 49, 3) by decide +kernel) cld_181_44 ⟨10, _, _, rfl, by decide, rfl⟩ wd_868 wd_869 wd_870), List.forall_mem_cons.mpr ⟨
  s_aload_n (k := 2) (show decode (cod 181) 414 = .ok (.aload_n 2, 1) by decide +kernel), List.forall_mem_cons.mpr ⟨
  s_aload_n (k := 0) (show decode (cod 181) 415 = .ok (.aload_n 0, 1) by decide +kernel), List.forall_mem_cons.mpr ⟨
  s_iload_n (k := 3) (show decode (cod 181) 416 = .ok (.iload_n 3, 1) by decide +kernel), List.forall_mem_cons.mpr ⟨
  s_iconst (show decode (cod 181) 417 = .ok (.iconst 1, 1) by decide +kernel) rfl, List.forall_mem_cons.mpr ⟨
  s_iadd (show decode (cod 181) 418 = .ok (.iadd, 1) by decide +kernel), List.forall_mem_cons.mpr ⟨
  s_iaload (show decode (cod 181) 419 = .ok (.iaload, 1) by decide +kernel), List.forall_mem_cons.mpr ⟨
  s_aload_n (k := 0) (show decode (cod 181) 420 = .ok (.aload_n 0, 1) by decide +kernel), List.forall_mem_cons.mpr ⟨
  s_iload_n (k := 3) (show decode (cod 181) 421 = .ok (.iload_n 3, 1) by decide +kernel), List.forall_mem_cons.mpr ⟨
  s_iconst (show decode (cod 181) 422 = .ok (.iconst 2, 1) by decide +kernel) rfl, List.forall_mem_cons.mpr ⟨
  s_iadd (show decode (cod 181) 423 = .ok (.iadd, 1) by decide +kernel), List.forall_mem_cons.mpr ⟨
  s_iaload (show decode (cod 181) 424 = .ok (.iaload, 1) by decide +kernel), List.forall_mem_cons.mpr ⟨
  s_invK rfl (rcv_virt (show decode (cod 181) 425 = .ok (.invokevirtual 52, 3) by decide +kernel) cld_181_140 ⟨11, _, _, rfl, by decide, rfl⟩ wd_872 wd_873 wd_874), List.forall_mem_cons.mpr ⟨
  s_icmpeq (show decode (cod 181) 428 = .ok (.if_icmp .eq 473, 3) by decide +kernel) (by decide), List.forall_mem_cons.mpr ⟨
  s_iconst (show decode (cod 181) 431 = .ok (.iconst 0, 1) by decide +kernel) rfl, List.forall_mem_cons.mpr ⟨
  s_ret (show decode (cod 181) 432 = .ok (.ireturn, 1) by decide +kernel) rZ_ok (fun _ => rZ_b), List.forall_mem_cons.mpr ⟨
  s_aload_n (k := 1) (show decode (cod 181) 433 = .ok (.aload_n 1, 1) by decide +kernel), List.forall_mem_cons.mpr ⟨
  s_aload_n (k := 0) (show decode (cod 181) 434 = .ok (.aload_n 0, 1) by decide +kernel), List.forall_mem_cons.mpr ⟨
  s_iload_n (k := 3) (show decode (cod 181) 435 = .ok (.iload_n 3, 1) by decide +kernel), List.forall_mem_cons.mpr ⟨
  s_iconst (show decode (cod 181) 436 = .ok (.iconst 1, 1) by decide +kernel) rfl, List.forall_mem_cons.mpr ⟨
  s_iadd (show decode (cod 181) 437 = .ok (.iadd, 1) by decide +kernel), List.forall_mem_cons.mpr ⟨
  s_iaload (show decode (cod 181) 438 = .ok (.iaload, 1) by decide +kernel), List.forall_mem_cons.mpr ⟨
  s_aload_n (k := 0) (show decode (cod 181) 439 = .ok (.aload_n 0, 1) by decide +kernel), List.forall_mem_cons.mpr ⟨
  s_iload_n (k := 3) (show decode (cod 181) 440 = .ok (.iload_n 3, 1) by decide +kernel), List.forall_mem_cons.mpr ⟨
  s_iconst (show decode (cod 181) 441 = .ok (.iconst 2, 1) by decide +kernel) rfl, List.forall_mem_cons.mpr ⟨
  s_iadd (show decode (cod 181) 442 = .ok (.iadd, 1) by decide +kernel), List.forall_mem_cons.mpr ⟨
  s_iaload (show decode (cod 181) 443 = .ok (.iaload, 1) by decide +kernel), List.forall_mem_cons.mpr ⟨
  s_aload_n (k := 0) (show decode (cod 181) 444 = .ok (.aload_n 0, 1) by decide +kernel), List.forall_mem_cons.mpr ⟨
  s_iload_n (k := 3) (show decode (cod 181) 445 = .ok (.iload_n 3, 1) by decide +kernel), List.forall_mem_cons.mpr ⟨
  s_iconst (show decode (cod 181) 446 = .ok (.iconst 3, 1) by decide +kernel) rfl, List.forall_mem_cons.mpr ⟨
  s_iadd (show decode (cod 181) 447 = .ok (.iadd, 1) by decide +kernel), fun _ h => by cases h⟩⟩⟩⟩⟩⟩⟩⟩⟩⟩⟩⟩⟩⟩⟩⟩⟩⟩⟩⟩⟩⟩⟩⟩⟩⟩⟩⟩⟩⟩⟩⟩⟩⟩⟩⟩⟩⟩⟩⟩
set_option maxRecDepth 100000 in
set_option maxHeartbeats 4000000 in
theorem si181_7 (X : CX) (l : Launch) : ∀ q ∈ ([(448, iRI 449 qAI), (449, iCK 452 11 46 5 4 1), (452, iP 453 (fAld 2)), (453, iP 454 (fAld 0)), (454, iP 455 (fIld 3)), (455, iP 456 (fK (.inl 1))), (456, iP 457 (f2I (fun x y => x + y))), (457, iRI 458 qAI), (458, iP 459 (fAld 0)), (459, iP 460 (fIld 3)), (460, iP 461 (fK (.inl 2))), (461, iP 462 (f2I (fun x y => x + y))), (462, iRI 463 qAI), (463, iP 464 (fAld 0)), (464, iP 465 (fIld 3)), (465, iP 466 (fK (.inl 3))), (466, iP 467 (f2I (fun x y => x + y))), (467, iRI 468 qAI), (468, iCK 471 12 142 5 4 1), (471, iB 474 901 (b2 (fun x y => decide (x = y)))), (474, iP 475 (fK (.inl 0))), (475, iRet rZ), (476, iP 477 (fAld 1)), (477, iP 478 (fAld 0)), (478, iP 479 (fIld 3)), (479, iP 480 (fK (.inl 1))), (480, iP 481 (f2I (fun x y => x + y))), (481, iRI 482 qAI), (482, iP 483 (fAld 0)), (483, iP 484 (fIld 3)), (484, iP 485 (fK (.inl 2))), (485, iP 486 (f2I (fun x y => x + y))), (486, iRI 487 qAI), (487, iP 488 (fAld 0)), (488, iP 489 (fIld 3)), (489, iP 490 (fK (.inl 3))), (490, iP 491 (f2I (fun x y => x + y))), (491, iRI 492 qAI), (492, iCK 495 11 49 6 4 1), (495, iP 496 (fAld 2))] : List (Nat × AS)), SI X l 181 q.1 q.2 := List.forall_mem_cons.mpr ⟨
  s_iaload (show decode (cod 181) 448 = .ok (.iaload, 1) by decide +kernel), List.forall_mem_cons.mpr ⟨
  s_invK rfl (rcv_virt (show decode (cod 181) 449 = .ok (.invokevirtual 53, 3) by decide +kernel) cld_181_46 ⟨10, _, _, rfl, by decide, rfl⟩ wd_876 wd_877 wd_878), List.forall_mem_cons.mpr ⟨
  s_aload_n (k := 2) (show decode (cod 181) 452 = .ok (.aload_n 2, 1) by decide +kernel), List.forall_mem_cons.mpr ⟨
  s_aload_n (k := 0) (show decode (cod 181) 453 = .ok (.aload_n 0, 1) by decide +kernel), List.forall_mem_cons.mpr ⟨
  s_iload_n (k := 3) (show decode (cod 181) 454 = .ok (.iload_n 3, 1) by decide +kernel), List.forall_mem_cons.mpr ⟨
  s_iconst (show decode (cod 181) 455 = .ok (.iconst 1, 1) by decide +kernel) rfl, List.forall_mem_cons.mpr ⟨
  s_iadd (show decode (cod 181) 456 = .ok (.iadd, 1) by decide +kernel), List.forall_mem_cons.mpr ⟨
  s_iaload (show decode (cod 181) 457 = .ok (.iaload, 1) by decide +kernel), List.forall_mem_cons.mpr ⟨
  s_aload_n (k := 0) (show decode (cod 181) 458 = .ok (.aload_n 0, 1) by decide +kernel), List.forall_mem_cons.mpr ⟨
  s_iload_n (k := 3) (show decode (cod 181) 459 = .ok (.iload_n 3, 1) by decide +kernel), List.forall_mem_cons.mpr ⟨
  s_iconst (show decode (cod 181) 460 = .ok (.iconst 2, 1) by decide +kernel) rfl, List.forall_mem_cons.mpr ⟨
  s_iadd (show decode (cod 181) 461 = .ok (.iadd, 1) by decide +kernel), List.forall_mem_cons.mpr ⟨
  s_iaload (show decode (cod 181) 462 = .ok (.iaload, 1) by decide +kernel), List.forall_mem_cons.mpr ⟨
  s_aload_n (k := 0) (show decode (cod 181) 463 = .ok (.aload_n 0, 1) by decide +kernel), List.forall_mem_cons.mpr ⟨
  s_iload_n (k := 3) (show decode (cod 181) 464 = .ok (.iload_n 3, 1) by decide +kernel), List.forall_mem_cons.mpr ⟨
  s_iconst (show decode (cod 181) 465 = .ok (.iconst 3, 1) by decide +kernel) rfl, List.forall_mem_cons.mpr ⟨
  s_iadd (show decode (cod 181) 466 = .ok (.iadd, 1) by decide +kernel), List.forall_mem_cons.mpr ⟨
  s_iaload (show decode (cod 181) 467 = .ok (.iaload, 1) by decide +kernel), List.forall_mem_cons.mpr ⟨
  s_invK rfl (rcv_virt (show decode (cod 181) 468 = .ok (.invokevirtual 57, 3) by decide +kernel) cld_181_142 ⟨11, _, _, rfl, by decide, rfl⟩ wd_880 wd_881 wd_882), List.forall_mem_cons.mpr ⟨
  s_icmpeq (show decode (cod 181) 471 = .ok (.if_icmp .eq 430, 3) by decide +kernel) (by decide), List.forall_mem_cons.mpr ⟨
  s_iconst (show decode (cod 181) 474 = .ok (.iconst 0, 1) by decide +kernel) rfl, List.forall_mem_cons.mpr ⟨
  s_ret (show decode (cod 181) 475 = .ok (.ireturn, 1) by decide +kernel) rZ_ok (fun _ => rZ_b), List.forall_mem_cons.mpr ⟨
  s_aload_n (k := 1) (show decode (cod 181) 476 = .ok (.aload_n 1, 1) by decide +kernel), List.forall_mem_cons.mpr ⟨
  s_aload_n (k := 0) (show decode (cod 181) 477 = .ok (.aload_n 0, 1) by decide +kernel), List.forall_mem_cons.mpr ⟨
  s_iload_n (k := 3) (show decode (cod 181) 478 = .ok (.iload_n 3, 1) by decide +kernel), List.forall_mem_cons.mpr ⟨
  s_iconst (show decode (cod 181) 479 = .ok (.iconst 1, 1) by decide +kernel) rfl, List.forall_mem_cons.mpr ⟨
  s_iadd (show decode (cod 181) 480 = .ok (.iadd, 1) by decide +kernel), List.forall_mem_cons.mpr ⟨
  s_iaload (show decode (cod 181) 481 = .ok (.iaload, 1) by decide +kernel), List.forall_mem_cons.mpr ⟨
  s_aload_n (k := 0) (show decode (cod 181) 482 = .ok (.aload_n 0, 1) by decide +kernel), List.forall_mem_cons.mpr ⟨
  s_iload_n (k := 3) (show decode (cod 181) 483 = .ok (.iload_n 3, 1) by decide +kernel), List.forall_mem_cons.mpr ⟨
  s_iconst (show decode (cod 181) 484 = .ok (.iconst 2, 1) by decide +kernel) rfl, List.forall_mem_cons.mpr ⟨
  s_iadd (show decode (cod 181) 485 = .ok (.iadd, 1) by decide +kernel), List.forall_mem_cons.mpr ⟨
  s_iaload (show decode (cod 181) 486 = .ok (.iaload, 1) by decide +kernel), List.forall_mem_cons.mpr ⟨
  s_aload_n (k := 0) (show decode (cod 181) 487 = .ok (.aload_n 0, 1) by decide +kernel), List.forall_mem_cons.mpr ⟨
  s_iload_n (k := 3) (show decode (cod 181) 488 = .ok (.iload_n 3, 1) by decide +kernel), List.forall_mem_cons.mpr ⟨
  s_iconst (show decode (cod 181) 489 = .ok (.iconst 3, 1) by decide +kernel) rfl, List.forall_mem_cons.mpr ⟨
  s_iadd (show decode (cod 181) 490 = .ok (.iadd, 1) by decide +kernel), List.forall_mem_cons.mpr ⟨
  s_iaload (show decode (cod 181) 491 = .ok (.iaload, 1) by decide +kernel), List.forall_mem_cons.mpr ⟨
  s_invK rfl (rcv_virt (show decode (cod 181) 492 = .ok (.invokevirtual 58, 3) by decide +kernel) cld_181_49 ⟨10, _, _, rfl, by decide, rfl⟩ wd_884 wd_885 wd_886), List.forall_mem_cons.mpr ⟨
  s_aload_n (k := 2) (show decode (cod 181) 495 = .ok (.aload_n 2, 1) by decide +kernel), fun _ h => by cases h⟩⟩⟩⟩⟩⟩⟩⟩⟩⟩⟩⟩⟩⟩⟩⟩⟩⟩⟩⟩⟩⟩⟩⟩⟩⟩⟩⟩⟩⟩⟩⟩⟩⟩⟩⟩⟩⟩⟩⟩
set_option maxRecDepth 100000 in
set_option maxHeartbeats 4000000 in
theorem si181_8 (X : CX) (l : Launch) : ∀ q ∈ ([(496, iP 497 (fAld 0)), (497, iP 498 (fIld 3)), (498, iP 499 (fK (.inl 1))), (499, iP 500 (f2I (fun x y => x + y))), (500, iRI 501 qAI), (501, iP 502 (fAld 0)), (502, iP 503 (fIld 3)), (503, iP 504 (fK (.inl 2))), (504, iP 505 (f2I (fun x y => x + y))), (505, iRI 506 qAI), (506, iP 507 (fAld 0)), (507, iP 508 (fIld 3)), (508, iP 509 (fK (.inl 3))), (509, iP 510 (f2I (fun x y => x + y))), (510, iRI 511 qAI), (511, iCK 514 12 144 4 4 1), (514, iB 517 901 (b2 (fun x y => decide (x = y)))), (517, iP 518 (fK (.inl 0))), (518, iRet rZ), (519, iP 520 (fAld 1)), (520, iP 521 (fAld 0)), (521, iP 522 (fIld 3)), (522, iP 523 (fK (.inl 1))), (523, iP 524 (f2I (fun x y => x + y))), (524, iRI 525 qAI), (525, iP 526 (fAld 0)), (526, iP 527 (fIld 3)), (527, iP 528 (fK (.inl 2))), (528, iP 529 (f2I (fun x y => x + y))), (529, iRI 530 qAI), (530, iP 531 (fAld 0)), (531, iP 532 (fIld 3)), (532, iP 533 (fK (.inl 3))), (533, iP 534 (f2I (fun x y => x + y))), (534, iRI 535 qAI), (535, iCK 538 11 50 5 4 1), (538, iP 539 (fAld 2)), (539, iP 540 (fAld 0)), (540, iP 541 (fIld 3)), (541, iP 542 (fK (.inl 1)))] : List (Nat × AS)), SI X l 181 q.1 q.2 := List.forall_mem_cons.mpr ⟨
  s_aload_n (k := 0) (show decode (cod 181) 496 = .ok (.aload_n 0, 1) by decide +kernel), List.forall_mem_cons.mpr ⟨
  s_iload_n (k := 3) (show decode (cod 181) 497 = .ok (.iload_n 3, 1) by decide +kernel), List.forall_mem_cons.mpr ⟨
  s_iconst (show decode (cod 181) 498 = .ok (.iconst 1, 1) by decide +kernel) rfl, List.forall_mem_cons.mpr ⟨
  s_iadd (show decode (cod 181) 499 = .ok (.iadd, 1) by decide +kernel), List.forall_mem_cons.mpr ⟨
  s_iaload (show decode (cod 181) 500 = .ok (.iaload, 1) by decide +kernel), List.forall_mem_cons.mpr ⟨
  s_aload_n (k := 0) (show decode (cod 181) 501 = .ok (.aload_n 0, 1) by decide +kernel), List.forall_mem_cons.mpr ⟨
  s_iload_n (k := 3) (show decode (cod 181) 502 = .ok (.iload_n 3, 1) by decide +kernel), List.forall_mem_cons.mpr ⟨
  s_iconst (show decode (cod 181) 503 = .ok (.iconst 2, 1) by decide +kernel) rfl, List.forall_mem_cons.mpr ⟨
  s_iadd (show decode (cod 181) 504 = .ok (.iadd, 1) by decide +kernel), List.forall_mem_cons.mpr ⟨
  s_iaload (show decode (cod 181) 505 = .ok (.iaload, 1) by decide +kernel), List.forall_mem_cons.mpr ⟨
  s_aload_n (k := 0) (show decode (cod 181) 506 = .ok (.aload_n 0, 1) by decide +kernel), List.forall_mem_cons.mpr ⟨
  s_iload_n (k := 3) (show decode (cod 181) 507 = .ok (.iload_n 3, 1) by decide +kernel), List.forall_mem_cons.mpr ⟨
  s_iconst (show decode (cod 181) 508 = .ok (.iconst 3, 1) by decide +kernel) rfl, List.forall_mem_cons.mpr ⟨
  s_iadd (show decode (cod 181) 509 = .ok (.iadd, 1) by decide +kernel), List.forall_mem_cons.mpr ⟨
  s_iaload (show decode (cod 181) 510 = .ok (.iaload, 1) by decide +kernel), List.forall_mem_cons.mpr ⟨
  s_invK rfl (rcv_virt (show decode (cod 181) 511 = .ok (.invokevirtual 61, 3) by decide +kernel) cld_181_144 ⟨11, _, _, rfl, by decide, rfl⟩ wd_888 wd_889 wd_890), List.forall_mem_cons.mpr ⟨
  s_icmpeq (show decode (cod 181) 514 = .ok (.if_icmp .eq 387, 3) by decide +kernel) (by decide), List.forall_mem_cons.mpr ⟨
  s_iconst (show decode (cod 181) 517 = .ok (.iconst 0, 1) by decide +kernel) rfl, List.forall_mem_cons.mpr ⟨
  s_ret (show decode (cod 181) 518 = .ok (.ireturn, 1) by decide +kernel) rZ_ok (fun _ => rZ_b), List.forall_mem_cons.mpr ⟨
  s_aload_n (k := 1) (show decode (cod 181) 519 = .ok (.aload_n 1, 1) by decide +kernel), List.forall_mem_cons.mpr ⟨
  s_aload_n (k := 0) (show decode (cod 181) 520 = .ok (.aload_n 0, 1) by decide +kernel), List.forall_mem_cons.mpr ⟨
  s_iload_n (k := 3) (show decode (cod 181) 521 = .ok (.iload_n 3, 1) by decide +kernel), List.forall_mem_cons.mpr ⟨
  s_iconst (show decode (cod 181) 522 = .ok (.iconst 1, 1) by decide +kernel) rfl, List.forall_mem_cons.mpr ⟨
  s_iadd (show decode (cod 181) 523 = .ok (.iadd, 1) by decide +kernel), List.forall_mem_cons.mpr ⟨
  s_iaload (show decode (cod 181) 524 = .ok (.iaload, 1) by decide +kernel), List.forall_mem_cons.mpr ⟨
  s_aload_n (k := 0) (show decode (cod 181) 525 = .ok (.aload_n 0, 1) by decide +kernel), List.forall_mem_cons.mpr ⟨
  s_iload_n (k := 3) (show decode (cod 181) 526 = .ok (.iload_n 3, 1) by decide +kernel), List.forall_mem_cons.mpr ⟨
  s_iconst (show decode (cod 181) 527 = .ok (.iconst 2, 1) by decide +kernel) rfl, List.forall_mem_cons.mpr ⟨
  s_iadd (show decode (cod 181) 528 = .ok (.iadd, 1) by decide +kernel), List.forall_mem_cons.mpr ⟨
  s_iaload (show decode (cod 181) 529 = .ok (.iaload, 1) by decide +kernel), List.forall_mem_cons.mpr ⟨
  s_aload_n (k := 0) (show decode (cod 181) 530 = .ok (.aload_n 0, 1) by decide +kernel), List.forall_mem_cons.mpr ⟨
  s_iload_n (k := 3) (show decode (cod 181) 531 = .ok (.iload_n 3, 1) by decide +kernel), List.forall_mem_cons.mpr ⟨
  s_iconst (show decode (cod 181) 532 = .ok (.iconst 3, 1) by decide +kernel) rfl, List.forall_mem_cons.mpr ⟨
  s_iadd (show decode (cod 181) 533 = .ok (.iadd, 1) by decide +kernel), List.forall_mem_cons.mpr ⟨
  s_iaload (show decode (cod 181) 534 = .ok (.iaload, 1) by decide +kernel), List.forall_mem_cons.mpr ⟨
  s_invK rfl (rcv_virt (show decode (cod 181) 535 = .ok (.invokevirtual 62, 3) by decide +kernel) cld_181_50 ⟨10, _, _, rfl, by decide, rfl⟩ wd_892 wd_893 wd_894), List.forall_mem_cons.mpr ⟨
  s_aload_n (k := 2) (show decode (cod 181) 538 = .ok (.aload_n 2, 1) by decide +kernel), List.forall_mem_cons.mpr ⟨
  s_aload_n (k := 0) (show decode (cod 181) 539 = .ok (.aload_n 0, 1) by decide +kernel), List.forall_mem_cons.mpr ⟨
  s_iload_n (k := 3) (show decode (cod 181) 540 = .ok (.iload_n 3, 1) by decide +kernel), List.forall_mem_cons.mpr ⟨
  s_iconst (show decode (cod 181) 541 = .ok (.iconst 1, 1) by decide +kernel) rfl, fun _ h => by cases h⟩⟩⟩⟩⟩⟩⟩⟩⟩⟩⟩⟩⟩⟩⟩⟩⟩⟩⟩⟩⟩⟩⟩⟩⟩⟩⟩⟩⟩⟩⟩⟩⟩⟩⟩⟩⟩⟩⟩⟩
set_option maxRecDepth 100000 in
set_option maxHeartbeats 4000000 in
theorem si181_9 (X : CX) (l : Launch) : ∀ q ∈ ([(542, iP 543 (f2I (fun x y => x + y))), (543, iRI 544 qAI), (544, iP 545 (fAld 0)), (545, iP 546 (fIld 3)), (546, iP 547 (fK (.inl 2))), (547, iP 548 (f2I (fun x y => x + y))), (548, iRI 549 qAI), (549, iP 550 (fAld 0)), (550, iP 551 (fIld 3)), (551, iP 552 (fK (.inl 3))), (552, iP 553 (f2I (fun x y => x + y))), (553, iRI 554 qAI), (554, iCK 557 12 145 4 4 1), (557, iB 560 901 (b2 (fun x y => decide (x = y)))), (560, iP 561 (fK (.inl 0))), (561, iRet rZ), (562, iP 563 (fAld 1)), (563, iP 564 (fAld 0)), (564, iP 565 (fIld 3)), (565, iP 566 (fK (.inl 1))), (566, iP 567 (f2I (fun x y => x + y))), (567, iRI 568 qAI), (568, iCK 571 11 63 2 2 1), (571, iP 572 (fAld 2)), (572, iP 573 (fAld 0)), (573, iP 574 (fIld 3)), (574, iP 575 (fK (.inl 1))), (575, iP 576 (f2I (fun x y => x + y))), (576, iRI 577 qAI), (577, iCK 580 12 150 2 2 1), (580, iB 583 901 (b2 (fun x y => decide (x = y)))), (583, iP 584 (fK (.inl 0))), (584, iRet rZ), (585, iP 586 (fAld 1)), (586, iP 587 (fAld 0)), (587, iP 588 (fIld 3)), (588, iP 589 (fK (.inl 1))), (589, iP 590 (f2I (fun x y => x + y))), (590, iRI 591 qAI), (591, iP 592 (fAld 0))] : List (Nat × AS)), SI X l 181 q.1 q.2 := List.forall_mem_cons.mpr ⟨
  s_iadd (show decode (cod 181) 542 = .ok (.iadd, 1) by decide +kernel), List.forall_mem_cons.mpr ⟨
  s_iaload (show decode (cod 181) 543 = .ok (.iaload, 1) by decide +kernel), List.forall_mem_cons.mpr ⟨
  s_aload_n (k := 0) (show decode (cod 181) 544 = .ok (.aload_n 0, 1) by decide +kernel), List.forall_mem_cons.mpr ⟨
  s_iload_n (k := 3) (show decode (cod 181) 545 = .ok (.iload_n 3, 1) by decide +kernel), List.forall_mem_cons.mpr ⟨
  s_iconst (show decode (cod 181) 546 = .ok (.iconst 2, 1) by decide +kernel) rfl, List.forall_mem_cons.mpr ⟨
  s_iadd (show decode (cod 181) 547 = .ok (.iadd, 1) by decide +kernel), List.forall_mem_cons.mpr ⟨
  s_iaload (show decode (cod 181) 548 = .ok (.iaload, 1) by decide +kernel), List.forall_mem_cons.mpr ⟨
  s_aload_n (k := 0) (show decode (cod 181) 549 = .ok (.aload_n 0, 1) by decide +kernel), List.forall_mem_cons.mpr ⟨
  s_iload_n (k := 3) (show decode (cod 181) 550 = .ok (.iload_n 3, 1) by decide +kernel), List.forall_mem_cons.mpr ⟨
  s_iconst (show decode (cod 181) 551 = .ok (.iconst 3, 1) by decide +kernel) rfl, List.forall_mem_cons.mpr ⟨
  s_iadd (show decode (cod 181) 552 = .ok (.iadd, 1) by decide +kernel), List.forall_mem_cons.mpr ⟨
  s_iaload (show decode (cod 181) 553 = .ok (.iaload, 1) by decide +kernel), List.forall_mem_cons.mpr ⟨
  s_invK rfl (rcv_virt (show decode (cod 181) 554 = .ok (.invokevirtual 65, 3) by decide +kernel) cld_181_145 ⟨11, _, _, rfl, by decide, rfl⟩ wd_896 wd_897 wd_898), List.forall_mem_cons.mpr ⟨
  s_icmpeq (show decode (cod 181) 557 = .ok (.if_icmp .eq 344, 3) by decide +kernel) (by decide), List.forall_mem_cons.mpr ⟨
  s_iconst (show decode (cod 181) 560 = .ok (.iconst 0, 1) by decide +kernel) rfl, List.forall_mem_cons.mpr ⟨
  s_ret (show decode (cod 181) 561 = .ok (.ireturn, 1) by decide +kernel) rZ_ok (fun _ => rZ_b), List.forall_mem_cons.mpr ⟨
  s_aload_n (k := 1) (show decode (cod 181) 562 = .ok (.aload_n 1, 1) by decide +kernel), List.forall_mem_cons.mpr ⟨
  s_aload_n (k := 0) (show decode (cod 181) 563 = .ok (.aload_n 0, 1) by decide +kernel), List.forall_mem_cons.mpr ⟨
  s_iload_n (k := 3) (show decode (cod 181) 564 = .ok (.iload_n 3, 1) by decide +kernel), List.forall_mem_cons.mpr ⟨
  s_iconst (show decode (cod 181) 565 = .ok (.iconst 1, 1) by decide +kernel) rfl, List.forall_mem_cons.mpr ⟨
  s_iadd (show decode (cod 181) 566 = .ok (.iadd, 1) by decide +kernel), List.forall_mem_cons.mpr ⟨
  s_iaload (show decode (cod 181) 567 = .ok (.iaload, 1) by decide +kernel), List.forall_mem_cons.mpr ⟨
  s_invK rfl (rcv_virt (show decode (cod 181) 568 = .ok (.invokevirtual 66, 3) by decide +kernel) cld_181_63 ⟨10, _, _, rfl, by decide, rfl⟩ wd_900 wd_901 wd_902), List.forall_mem_cons.mpr ⟨
  s_aload_n (k := 2) (show decode (cod 181) 571 = .ok (.aload_n 2, 1) by decide +kernel), List.forall_mem_cons.mpr ⟨
  s_aload_n (k := 0) (show decode (cod 181) 572 = .ok (.aload_n 0, 1) by decide +kernel), List.forall_mem_cons.mpr ⟨
  s_iload_n (k := 3) (show decode (cod 181) 573 = .ok (.iload_n 3, 1) by decide +kernel), List.forall_mem_cons.mpr ⟨
  s_iconst (show decode (cod 181) 574 = .ok (.iconst 1, 1) by decide +kernel) rfl, List.forall_mem_cons.mpr ⟨
  s_iadd (show decode (cod 181) 575 = .ok (.iadd, 1) by decide +kernel), List.forall_mem_cons.mpr ⟨
  s_iaload (show decode (cod 181) 576 = .ok (.iaload, 1) by decide +kernel), List.forall_mem_cons.mpr ⟨
  s_invK rfl (rcv_virt (show decode (cod 181) 577 = .ok (.invokevirtual 69, 3) by decide +kernel) cld_181_150 ⟨11, _, _, rfl, by decide, rfl⟩ wd_904 wd_905 wd_906), List.forall_mem_cons.mpr ⟨
  s_icmpeq (show decode (cod 181) 580 = .ok (.if_icmp .eq 321, 3) by decide +kernel) (by decide), List.forall_mem_cons.mpr ⟨
  s_iconst (show decode (cod 181) 583 = .ok (.iconst 0, 1) by decide +kernel) rfl, List.forall_mem_cons.mpr ⟨
  s_ret (show decode (cod 181) 584 = .ok (.ireturn, 1) by decide +kernel) rZ_ok (fun _ => rZ_b), List.forall_mem_cons.mpr ⟨
  s_aload_n (k := 1) (show decode (cod 181) 585 = .ok (.aload_n 1, 1) by decide +kernel), List.forall_mem_cons.mpr ⟨
  s_aload_n (k := 0) (show decode (cod 181) 586 = .ok (.aload_n 0, 1) by decide +kernel), List.forall_mem_cons.mpr ⟨
  s_iload_n (k := 3) (show decode (cod 181) 587 = .ok (.iload_n 3, 1) by decide +kernel), List.forall_mem_cons.mpr ⟨
  s_iconst (show decode (cod 181) 588 = .ok (.iconst 1, 1) by decide +kernel) rfl, List.forall_mem_cons.mpr ⟨
  s_iadd (show decode (cod 181) 589 = .ok (.iadd, 1) by decide +kernel), List.forall_mem_cons.mpr ⟨
  s_iaload (show decode (cod 181) 590 = .ok (.iaload, 1) by decide +kernel), List.forall_mem_cons.mpr ⟨
  s_aload_n (k := 0) (show decode (cod 181) 591 = .ok (.aload_n 0, 1) by decide +kernel), fun _ h => by cases h⟩⟩⟩⟩⟩⟩⟩⟩⟩⟩⟩⟩⟩⟩⟩⟩⟩⟩⟩⟩⟩⟩⟩⟩⟩⟩⟩⟩⟩⟩⟩⟩⟩⟩⟩⟩⟩⟩⟩⟩
set_option maxRecDepth 100000 in
set_option maxHeartbeats 4000000 in
theorem si181_10 (X : CX) (l : Launch) : ∀ q ∈ ([(592, iP 593 (fIld 3)), (593, iP 594 (fK (.inl 2))), (594, iP 595 (f2I (fun x y => x + y))), (595, iRI 596 qAI), (596, iCK 599 11 65 5 3 1), (599, iP 600 (fAld 2)), (600, iP 601 (fAld 0)), (601, iP 602 (fIld 3)), (602, iP 603 (fK (.inl 1))), (603, iP 604 (f2I (fun x y => x + y))), (604, iRI 605 qAI), (605, iP 606 (fAld 0)), (606, iP 607 (fIld 3)), (607, iP 608 (fK (.inl 2))), (608, iP 609 (f2I (fun x y => x + y))), (609, iRI 610 qAI), (610, iCK 613 12 151 4 3 1), (613, iB 616 901 (b2 (fun x y => decide (x = y)))), (616, iP 617 (fK (.inl 0))), (617, iRet rZ), (618, iP 619 (fAld 1)), (619, iP 620 (fAld 0)), (620, iP 621 (fIld 3)), (621, iP 622 (fK (.inl 1))), (622, iP 623 (f2I (fun x y => x + y))), (623, iRI 624 qAI), (624, iP 625 (fAld 0)), (625, iP 626 (fIld 3)), (626, iP 627 (fK (.inl 2))), (627, iP 628 (f2I (fun x y => x + y))), (628, iRI 629 qAI), (629, iP 630 (fAld 0)), (630, iP 631 (fIld 3)), (631, iP 632 (fK (.inl 3))), (632, iP 633 (f2I (fun x y => x + y))), (633, iRI 634 qAI), (634, iP 635 (fAld 0)), (635, iP 636 (fIld 3)), (636, iP 637 (fK (.inl 4))), (637, iP 638 (f2I (fun x y => x + y)))] : List (Nat × AS)), SI X l 181 q.1 q.2 := List.forall_mem_cons.mpr ⟨
  s_iload_n (k := 3) (show decode (cod 181) 592 = .ok (.iload_n 3, 1) by decide +kernel), List.forall_mem_cons.mpr ⟨
  s_iconst (show decode (cod 181) 593 = .ok (.iconst 2, 1) by decide +kernel) rfl, List.forall_mem_cons.mpr ⟨
  s_iadd (show decode (cod 181) 594 = .ok (.iadd, 1) by decide +kernel), List.forall_mem_cons.mpr ⟨
  s_iaload (show decode (cod 181) 595 = .ok (.iaload, 1) by decide +kernel), List.forall_mem_cons.mpr ⟨
  s_invK rfl (rcv_virt (show decode (cod 181) 596 = .ok (.invokevirtual 70, 3) by decide +kernel) cld_181_65 ⟨10, _, _, rfl, by decide, rfl⟩ wd_908 wd_909 wd_910), List.forall_mem_cons.mpr ⟨
  s_aload_n (k := 2) (show decode (cod 181) 599 = .ok (.aload_n 2, 1) by decide +kernel), List.forall_mem_cons.mpr ⟨
  s_aload_n (k := 0) (show decode (cod 181) 600 = .ok (.aload_n 0, 1) by decide +kernel), List.forall_mem_cons.mpr ⟨
  s_iload_n (k := 3) (show decode (cod 181) 601 = .ok (.iload_n 3, 1) by decide +kernel), List.forall_mem_cons.mpr ⟨
  s_iconst (show decode (cod 181) 602 = .ok (.iconst 1, 1) by decide +kernel) rfl, List.forall_mem_cons.mpr ⟨
  s_iadd (show decode (cod 181) 603 = .ok (.iadd, 1) by decide +kernel), List.forall_mem_cons.mpr ⟨
  s_iaload (show decode (cod 181) 604 = .ok (.iaload, 1) by decide +kernel), List.forall_mem_cons.mpr ⟨
  s_aload_n (k := 0) (show decode (cod 181) 605 = .ok (.aload_n 0, 1) by decide +kernel), List.forall_mem_cons.mpr ⟨
  s_iload_n (k := 3) (show decode (cod 181) 606 = .ok (.iload_n 3, 1) by decide +kernel), List.forall_mem_cons.mpr ⟨
  s_iconst (show decode (cod 181) 607 = .ok (.iconst 2, 1) by decide +kernel) rfl, List.forall_mem_cons.mpr ⟨
  s_iadd (show decode (cod 181) 608 = .ok (.iadd, 1) by decide +kernel), List.forall_mem_cons.mpr ⟨
  s_iaload (show decode (cod 181) 609 = .ok (.iaload, 1) by decide +kernel), List.forall_mem_cons.mpr ⟨
  s_invK rfl (rcv_virt (show decode (cod 181) 610 = .ok (.invokevirtual 73, 3) by decide +kernel) cld_181_151 ⟨11, _, _, rfl, by decide, rfl⟩ wd_912 wd_913 wd_914), List.forall_mem_cons.mpr ⟨
  s_icmpeq (show decode (cod 181) 613 = .ok (.if_icmp .eq 288, 3) by decide +kernel) (by decide), List.forall_mem_cons.mpr ⟨
  s_iconst (show decode (cod 181) 616 = .ok (.iconst 0, 1) by decide +kernel) rfl, List.forall_mem_cons.mpr ⟨
  s_ret (show decode (cod 181) 617 = .ok (.ireturn, 1) by decide +kernel) rZ_ok (fun _ => rZ_b), List.forall_mem_cons.mpr ⟨
  s_aload_n (k := 1) (show decode (cod 181) 618 = .ok (.aload_n 1, 1) by decide +kernel), List.forall_mem_cons.mpr ⟨
  s_aload_n (k := 0) (show decode (cod 181) 619 = .ok (.aload_n 0, 1) by decide +kernel), List.forall_mem_cons.mpr ⟨
  s_iload_n (k := 3) (show decode (cod 181) 620 = .ok (.iload_n 3, 1) by decide +kernel), List.forall_mem_cons.mpr ⟨
  s_iconst (show decode (cod 181) 621 = .ok (.iconst 1, 1) by decide +kernel) rfl, List.forall_mem_cons.mpr ⟨
  s_iadd (show decode (cod 181) 622 = .ok (.iadd, 1) by decide +kernel), List.forall_mem_cons.mpr ⟨
  s_iaload (show decode (cod 181) 623 = .ok (.iaload, 1) by decide +kernel), List.forall_mem_cons.mpr ⟨
  s_aload_n (k := 0) (show decode (cod 181) 624 = .ok (.aload_n 0, 1) by decide +kernel), List.forall_mem_cons.mpr ⟨
  s_iload_n (k := 3) (show decode (cod 181) 625 = .ok (.iload_n 3, 1) by decide +kernel), List.forall_mem_cons.mpr ⟨
  s_iconst (show decode (cod 181) 626 = .ok (.iconst 2, 1) by decide +kernel) rfl, List.forall_mem_cons.mpr ⟨
  s_iadd (show decode (cod 181) 627 = .ok (.iadd, 1) by decide +kernel), List.forall_mem_cons.mpr ⟨
  s_iaload (show decode (cod 181) 628 = .ok (.iaload, 1) by decide +kernel), List.forall_mem_cons.mpr ⟨
  s_aload_n (k := 0) (show decode (cod 181) 629 = .ok (.aload_n 0, 1) by decide +kernel), List.forall_mem_cons.mpr ⟨
  s_iload_n (k := 3) (show decode (cod 181) 630 = .ok (.iload_n 3, 1) by decide +kernel), List.forall_mem_cons.mpr ⟨
  s_iconst (show decode (cod 181) 631 = .ok (.iconst 3, 1) by decide +kernel) rfl, List.forall_mem_cons.mpr ⟨
  s_iadd (show decode (cod 181) 632 = .ok (.iadd, 1) by decide +kernel), List.forall_mem_cons.mpr ⟨
  s_iaload (show decode (cod 181) 633 = .ok (.iaload, 1) by decide +kernel), List.forall_mem_cons.mpr ⟨
  s_aload_n (k := 0) (show decode (cod 181) 634 = .ok (.aload_n 0, 1) by decide +kernel), List.forall_mem_cons.mpr ⟨
  s_iload_n (k := 3) (show decode (cod 181) 635 = .ok (.iload_n 3, 1) by decide +kernel), List.forall_mem_cons.mpr ⟨
  s_iconst (show decode (cod 181) 636 = .ok (.iconst 4, 1) by decide +kernel) rfl, List.forall_mem_cons.mpr ⟨
  s_iadd (show decode (cod 181) 637 = .ok (.iadd, 1) by decide +kernel), fun _ h => by cases h⟩⟩⟩⟩⟩⟩⟩⟩⟩⟩⟩⟩⟩⟩⟩⟩⟩⟩⟩⟩⟩⟩⟩⟩⟩⟩⟩⟩⟩⟩⟩⟩⟩⟩⟩⟩⟩⟩⟩⟩
set_option maxRecDepth 100000 in
set_option maxHeartbeats 4000000 in
theorem si181_11 (X : CX) (l : Launch) : ∀ q ∈ ([(638, iRI 639 qAI), (639, iCK 642 11 97 10 5 2), (642, iP 643 (fAld 2)), (643, iP 644 (fAld 0)), (644, iP 645 (fIld 3)), (645, iP 646 (fK (.inl 1))), (646, iP 647 (f2I (fun x y => x + y))), (647, iRI 648 qAI), (648, iP 649 (fAld 0)), (649, iP 650 (fIld 3)), (650, iP 651 (fK (.inl 2))), (651, iP 652 (f2I (fun x y => x + y))), (652, iRI 653 qAI), (653, iP 654 (fAld 0)), (654, iP 655 (fIld 3)), (655, iP 656 (fK (.inl 3))), (656, iP 657 (f2I (fun x y => x + y))), (657, iRI 658 qAI), (658, iP 659 (fAld 0)), (659, iP 660 (fIld 3)), (660, iP 661 (fK (.inl 4))), (661, iP 662 (f2I (fun x y => x + y))), (662, iRI 663 qAI), (663, iCK 666 12 165 13 5 2), (666, iP 667 fLcmp), (667, iB 670 901 (b1 (fun x => decide (x = 0)))), (670, iP 671 (fK (.inl 0))), (671, iRet rZ), (672, iP 673 (fAld 1)), (673, iP 674 (fAld 0)), (674, iP 675 (fIld 3)), (675, iP 676 (fK (.inl 1))), (676, iP 677 (f2I (fun x y => x + y))), (677, iRI 678 qAI), (678, iP 679 (fAld 0)), (679, iP 680 (fIld 3)), (680, iP 681 (fK (.inl 2))), (681, iP 682 (f2I (fun x y => x + y))), (682, iRI 683 qAI), (683, iP 684 (fAld 0))] : List (Nat × AS)), SI X l 181 q.1 q.2 := List.forall_mem_cons.mpr ⟨
  s_iaload (show decode (cod 181) 638 = .ok (.iaload, 1) by decide +kernel), List.forall_mem_cons.mpr ⟨
  s_invK rfl (rcv_virt (show decode (cod 181) 639 = .ok (.invokevirtual 74, 3) by decide +kernel) cld_181_97 ⟨10, _, _, rfl, by decide, rfl⟩ wd_916 wd_917 wd_918), List.forall_mem_cons.mpr ⟨
  s_aload_n (k := 2) (show decode (cod 181) 642 = .ok (.aload_n 2, 1) by decide +kernel), List.forall_mem_cons.mpr ⟨
  s_aload_n (k := 0) (show decode (cod 181) 643 = .ok (.aload_n 0, 1) by decide +kernel), List.forall_mem_cons.mpr ⟨
  s_iload_n (k := 3) (show decode (cod 181) 644 = .ok (.iload_n 3, 1) by decide +kernel), List.forall_mem_cons.mpr ⟨
  s_iconst (show decode (cod 181) 645 = .ok (.iconst 1, 1) by decide +kernel) rfl, List.forall_mem_cons.mpr ⟨
  s_iadd (show decode (cod 181) 646 = .ok (.iadd, 1) by decide +kernel), List.forall_mem_cons.mpr ⟨
  s_iaload (show decode (cod 181) 647 = .ok (.iaload, 1) by decide +kernel), List.forall_mem_cons.mpr ⟨
  s_aload_n (k := 0) (show decode (cod 181) 648 = .ok (.aload_n 0, 1) by decide +kernel), List.forall_mem_cons.mpr ⟨
  s_iload_n (k := 3) (show decode (cod 181) 649 = .ok (.iload_n 3, 1) by decide +kernel), List.forall_mem_cons.mpr ⟨
  s_iconst (show decode (cod 181) 650 = .ok (.iconst 2, 1) by decide +kernel) rfl, List.forall_mem_cons.mpr ⟨
  s_iadd (show decode (cod 181) 651 = .ok (.iadd, 1) by decide +kernel), List.forall_mem_cons.mpr ⟨
  s_iaload (show decode (cod 181) 652 = .ok (.iaload, 1) by decide +kernel), List.forall_mem_cons.mpr ⟨
  s_aload_n (k := 0) (show decode (cod 181) 653 = .ok (.aload_n 0, 1) by decide +kernel), List.forall_mem_cons.mpr ⟨
  s_iload_n (k := 3) (show decode (cod 181) 654 = .ok (.iload_n 3, 1) by decide +kernel), List.forall_mem_cons.mpr ⟨
  s_iconst (show decode (cod 181) 655 = .ok (.iconst 3, 1) by decide +kernel) rfl, List.forall_mem_cons.mpr ⟨
  s_iadd (show decode (cod 181) 656 = .ok (.iadd, 1) by decide +kernel), List.forall_mem_cons.mpr ⟨
  s_iaload (show decode (cod 181) 657 = .ok (.iaload, 1) by decide +kernel), List.forall_mem_cons.mpr ⟨
  s_aload_n (k := 0) (show decode (cod 181) 658 = .ok (.aload_n 0, 1) by decide +kernel), List.forall_mem_cons.mpr ⟨
  s_iload_n (k := 3) (show decode (cod 181) 659 = .ok (.iload_n 3, 1) by decide +kernel), List.forall_mem_cons.mpr ⟨
  s_iconst (show decode (cod 181) 660 = .ok (.iconst 4, 1) by decide +kernel) rfl, List.forall_mem_cons.mpr ⟨
  s_iadd (show decode (cod 181) 661 = .ok (.iadd, 1) by decide +kernel), List.forall_mem_cons.mpr ⟨
  s_iaload (show decode (cod 181) 662 = .ok (.iaload, 1) by decide +kernel), List.forall_mem_cons.mpr ⟨
  s_invK rfl (rcv_virt (show decode (cod 181) 663 = .ok (.invokevirtual 78, 3) by decide +kernel) cld_181_165 ⟨11, _, _, rfl, by decide, rfl⟩ wd_920 wd_921 wd_922), List.forall_mem_cons.mpr ⟨
  s_lcmp (show decode (cod 181) 666 = .ok (.lcmp, 1) by decide +kernel), List.forall_mem_cons.mpr ⟨
  s_ifeq (show decode (cod 181) 667 = .ok (.ifCond .eq 234, 3) by decide +kernel) (by decide), List.forall_mem_cons.mpr ⟨
  s_iconst (show decode (cod 181) 670 = .ok (.iconst 0, 1) by decide +kernel) rfl, List.forall_mem_cons.mpr ⟨
  s_ret (show decode (cod 181) 671 = .ok (.ireturn, 1) by decide +kernel) rZ_ok (fun _ => rZ_b), List.forall_mem_cons.mpr ⟨
  s_aload_n (k := 1) (show decode (cod 181) 672 = .ok (.aload_n 1, 1) by decide +kernel), List.forall_mem_cons.mpr ⟨
  s_aload_n (k := 0) (show decode (cod 181) 673 = .ok (.aload_n 0, 1) by decide +kernel), List.forall_mem_cons.mpr ⟨
  s_iload_n (k := 3) (show decode (cod 181) 674 = .ok (.iload_n 3, 1) by decide +kernel), List.forall_mem_cons.mpr ⟨
  s_iconst (show decode (cod 181) 675 = .ok (.iconst 1, 1) by decide +kernel) rfl, List.forall_mem_cons.mpr ⟨
  s_iadd (show decode (cod 181) 676 = .ok (.iadd, 1) by decide +kernel), List.forall_mem_cons.mpr ⟨
  s_iaload (show decode (cod 181) 677 = .ok (.iaload, 1) by decide +kernel), List.forall_mem_cons.mpr ⟨
  s_aload_n (k := 0) (show decode (cod 181) 678 = .ok (.aload_n 0, 1) by decide +kernel), List.forall_mem_cons.mpr ⟨
  s_iload_n (k := 3) (show decode (cod 181) 679 = .ok (.iload_n 3, 1) by decide +kernel), List.forall_mem_cons.mpr ⟨
  s_iconst (show decode (cod 181) 680 = .ok (.iconst 2, 1) by decide +kernel) rfl, List.forall_mem_cons.mpr ⟨
  s_iadd (show decode (cod 181) 681 = .ok (.iadd, 1) by decide +kernel), List.forall_mem_cons.mpr ⟨
  s_iaload (show decode (cod 181) 682 = .ok (.iaload, 1) by decide +kernel), List.forall_mem_cons.mpr ⟨
  s_aload_n (k := 0) (show decode (cod 181) 683 = .ok (.aload_n 0, 1) by decide +kernel), fun _ h => by cases h⟩⟩⟩⟩⟩⟩⟩⟩⟩⟩⟩⟩⟩⟩⟩⟩⟩⟩⟩⟩⟩⟩⟩⟩⟩⟩⟩⟩⟩⟩⟩⟩⟩⟩⟩⟩⟩⟩⟩⟩
set_option maxRecDepth 100000 in
set_option maxHeartbeats 4000000 in
theorem si181_12 (X : CX) (l : Launch) : ∀ q ∈ ([(684, iP 685 (fIld 3)), (685, iP 686 (fK (.inl 3))), (686, iP 687 (f2I (fun x y => x + y))), (687, iRI 688 qAI), (688, iP 689 (fAld 0)), (689, iP 690 (fIld 3)), (690, iP 691 (fK (.inl 4))), (691, iP 692 (f2I (fun x y => x + y))), (692, iRI 693 qAI), (693, iCK 696 11 101 7 5 2), (696, iP 697 (fAld 2)), (697, iP 698 (fAld 0)), (698, iP 699 (fIld 3)), (699, iP 700 (fK (.inl 1))), (700, iP 701 (f2I (fun x y => x + y))), (701, iRI 702 qAI), (702, iP 703 (fAld 0)), (703, iP 704 (fIld 3)), (704, iP 705 (fK (.inl 2))), (705, iP 706 (f2I (fun x y => x + y))), (706, iRI 707 qAI), (707, iP 708 (fAld 0)), (708, iP 709 (fIld 3)), (709, iP 710 (fK (.inl 3))), (710, iP 711 (f2I (fun x y => x + y))), (711, iRI 712 qAI), (712, iP 713 (fAld 0)), (713, iP 714 (fIld 3)), (714, iP 715 (fK (.inl 4))), (715, iP 716 (f2I (fun x y => x + y))), (716, iRI 717 qAI), (717, iCK 720 12 168 6 5 2), (720, iP 721 fLcmp), (721, iB 724 901 (b1 (fun x => decide (x = 0)))), (724, iP 725 (fK (.inl 0))), (725, iRet rZ), (726, iP 727 (fAld 1)), (727, iP 728 (fAld 0)), (728, iP 729 (fIld 3)), (729, iP 730 (fK (.inl 1)))] : List (Nat × AS)), SI X l 181 q.1 q.2 := List.forall_mem_cons.mpr ⟨
  s_iload_n (k := 3) (show decode (cod 181) 684 = .ok (.iload_n 3, 1) by decide +kernel), List.forall_mem_cons.mpr ⟨
  s_iconst (show decode (cod 181) 685 = .ok (.iconst 3, 1) by decide +kernel) rfl, List.forall_mem_cons.mpr ⟨
  s_iadd (show decode (cod 181) 686 = .ok (.iadd, 1) by decide +kernel), List.forall_mem_cons.mpr ⟨
  s_iaload (show decode (cod 181) 687 = .ok (.iaload, 1) by decide +kernel), List.forall_mem_cons.mpr ⟨
  s_aload_n (k := 0) (show decode (cod 181) 688 = .ok (.aload_n 0, 1) by decide +kernel), List.forall_mem_cons.mpr ⟨
  s_iload_n (k := 3) (show decode (cod 181) 689 = .ok (.iload_n 3, 1) by decide +kernel), List.forall_mem_cons.mpr ⟨
  s_iconst (show decode (cod 181) 690 = .ok (.iconst 4, 1) by decide +kernel) rfl, List.forall_mem_cons.mpr ⟨
  s_iadd (show decode (cod 181) 691 = .ok (.iadd, 1) by decide +kernel), List.forall_mem_cons.mpr ⟨
  s_iaload (show decode (cod 181) 692 = .ok (.iaload, 1) by decide +kernel), List.forall_mem_cons.mpr ⟨
  s_invK rfl (rcv_virt (show decode (cod 181) 693 = .ok (.invokevirtual 79, 3) by decide +kernel) cld_181_101 ⟨10, _, _, rfl, by decide, rfl⟩ wd_924 wd_925 wd_926), List.forall_mem_cons.mpr ⟨
  s_aload_n (k := 2) (show decode (cod 181) 696 = .ok (.aload_n 2, 1) by decide +kernel), List.forall_mem_cons.mpr ⟨
  s_aload_n (k := 0) (show decode (cod 181) 697 = .ok (.aload_n 0, 1) by decide +kernel), List.forall_mem_cons.mpr ⟨
  s_iload_n (k := 3) (show decode (cod 181) 698 = .ok (.iload_n 3, 1) by decide +kernel), List.forall_mem_cons.mpr ⟨
  s_iconst (show decode (cod 181) 699 = .ok (.iconst 1, 1) by decide +kernel) rfl, List.forall_mem_cons.mpr ⟨
  s_iadd (show decode (cod 181) 700 = .ok (.iadd, 1) by decide +kernel), List.forall_mem_cons.mpr ⟨
  s_iaload (show decode (cod 181) 701 = .ok (.iaload, 1) by decide +kernel), List.forall_mem_cons.mpr ⟨
  s_aload_n (k := 0) (show decode (cod 181) 702 = .ok (.aload_n 0, 1) by decide +kernel), List.forall_mem_cons.mpr ⟨
  s_iload_n (k := 3) (show decode (cod 181) 703 = .ok (.iload_n 3, 1) by decide +kernel), List.forall_mem_cons.mpr ⟨
  s_iconst (show decode (cod 181) 704 = .ok (.iconst 2, 1) by decide +kernel) rfl, List.forall_mem_cons.mpr ⟨
  s_iadd (show decode (cod 181) 705 = .ok (.iadd, 1) by decide +kernel), List.forall_mem_cons.mpr ⟨
  s_iaload (show decode (cod 181) 706 = .ok (.iaload, 1) by decide +kernel), List.forall_mem_cons.mpr ⟨
  s_aload_n (k := 0) (show decode (cod 181) 707 = .ok (.aload_n 0, 1) by decide +kernel), List.forall_mem_cons.mpr ⟨
  s_iload_n (k := 3) (show decode (cod 181) 708 = .ok (.iload_n 3, 1) by decide +kernel), List.forall_mem_cons.mpr ⟨
  s_iconst (show decode (cod 181) 709 = .ok (.iconst 3, 1) by decide +kernel) rfl, List.forall_mem_cons.mpr ⟨
  s_iadd (show decode (cod 181) 710 = .ok (.iadd, 1) by decide +kernel), List.forall_mem_cons.mpr ⟨
  s_iaload (show decode (cod 181) 711 = .ok (.iaload, 1) by decide +kernel), List.forall_mem_cons.mpr ⟨
  s_aload_n (k := 0) (show decode (cod 181) 712 = .ok (.aload_n 0, 1) by decide +kernel), List.forall_mem_cons.mpr ⟨
  s_iload_n (k := 3) (show decode (cod 181) 713 = .ok (.iload_n 3, 1) by decide +kernel), List.forall_mem_cons.mpr ⟨
  s_iconst (show decode (cod 181) 714 = .ok (.iconst 4, 1) by decide +kernel) rfl, List.forall_mem_cons.mpr ⟨
  s_iadd (show decode (cod 181) 715 = .ok (.iadd, 1) by decide +kernel), List.forall_mem_cons.mpr ⟨
  s_iaload (show decode (cod 181) 716 = .ok (.iaload, 1) by decide +kernel), List.forall_mem_cons.mpr ⟨
  s_invK rfl (rcv_virt (show decode (cod 181) 717 = .ok (.invokevirtual 82, 3) by decide +kernel) cld_181_168 ⟨11, _, _, rfl, by decide, rfl⟩ wd_928 wd_929 wd_930), List.forall_mem_cons.mpr ⟨
  s_lcmp (show decode (cod 181) 720 = .ok (.lcmp, 1) by decide +kernel), List.forall_mem_cons.mpr ⟨
  s_ifeq (show decode (cod 181) 721 = .ok (.ifCond .eq 180, 3) by decide +kernel) (by decide), List.forall_mem_cons.mpr ⟨
  s_iconst (show decode (cod 181) 724 = .ok (.iconst 0, 1) by decide +kernel) rfl, List.forall_mem_cons.mpr ⟨
  s_ret (show decode (cod 181) 725 = .ok (.ireturn, 1) by decide +kernel) rZ_ok (fun _ => rZ_b), List.forall_mem_cons.mpr ⟨
  s_aload_n (k := 1) (show decode (cod 181) 726 = .ok (.aload_n 1, 1) by decide +kernel), List.forall_mem_cons.mpr ⟨
  s_aload_n (k := 0) (show decode (cod 181) 727 = .ok (.aload_n 0, 1) by decide +kernel), List.forall_mem_cons.mpr ⟨
  s_iload_n (k := 3) (show decode (cod 181) 728 = .ok (.iload_n 3, 1) by decide +kernel), List.forall_mem_cons.mpr ⟨
  s_iconst (show decode (cod 181) 729 = .ok (.iconst 1, 1) by decide +kernel) rfl, fun _ h => by cases h⟩⟩⟩⟩⟩⟩⟩⟩⟩⟩⟩⟩⟩⟩⟩⟩⟩⟩⟩⟩⟩⟩⟩⟩⟩⟩⟩⟩⟩⟩⟩⟩⟩⟩⟩⟩⟩⟩⟩⟩
set_option maxRecDepth 100000 in
set_option maxHeartbeats 4000000 in
theorem si181_13 (X : CX) (l : Launch) : ∀ q ∈ ([(730, iP 731 (f2I (fun x y => x + y))), (731, iRI 732 qAI), (732, iCK 735 11 105 4 2 1), (735, iP 736 (fAld 2)), (736, iP 737 (fAld 0)), (737, iP 738 (fIld 3)), (738, iP 739 (fK (.inl 1))), (739, iP 740 (f2I (fun x y => x + y))), (740, iRI 741 qAI), (741, iCK 744 12 171 3 2 1), (744, iB 747 901 (b2 (fun x y => decide (x = y)))), (747, iP 748 (fK (.inl 0))), (748, iRet rZ), (749, iP 750 (fAld 1)), (750, iP 751 (fAld 0)), (751, iP 752 (fIld 3)), (752, iP 753 (fK (.inl 1))), (753, iP 754 (f2I (fun x y => x + y))), (754, iRI 755 qAI), (755, iP 756 (fAld 0)), (756, iP 757 (fIld 3)), (757, iP 758 (fK (.inl 2))), (758, iP 759 (f2I (fun x y => x + y))), (759, iRI 760 qAI), (760, iP 761 (fAld 0)), (761, iP 762 (fIld 3)), (762, iP 763 (fK (.inl 3))), (763, iP 764 (f2I (fun x y => x + y))), (764, iRI 765 qAI), (765, iP 766 (fAld 0)), (766, iP 767 (fIld 3)), (767, iP 768 (fK (.inl 4))), (768, iP 769 (f2I (fun x y => x + y))), (769, iRI 770 qAI), (770, iCK 773 11 107 6 5 1), (773, iP 774 (fAld 2)), (774, iP 775 (fAld 0)), (775, iP 776 (fIld 3)), (776, iP 777 (fK (.inl 1))), (777, iP 778 (f2I (fun x y => x + y)))] : List (Nat × AS)), SI X l 181 q.1 q.2 := List.forall_mem_cons.mpr ⟨
  s_iadd (show decode (cod 181) 730 = .ok (.iadd, 1) by decide +kernel), List.forall_mem_cons.mpr ⟨
  s_iaload (show decode (cod 181) 731 = .ok (.iaload, 1) by decide +kernel), List.forall_mem_cons.mpr ⟨
  s_invK rfl (rcv_virt (show decode (cod 181) 732 = .ok (.invokevirtual 83, 3) by decide +kernel) cld_181_105 ⟨10, _, _, rfl, by decide, rfl⟩ wd_932 wd_933 wd_934), List.forall_mem_cons.mpr ⟨
  s_aload_n (k := 2) (show decode (cod 181) 735 = .ok (.aload_n 2, 1) by decide +kernel), List.forall_mem_cons.mpr ⟨
  s_aload_n (k := 0) (show decode (cod 181) 736 = .ok (.aload_n 0, 1) by decide +kernel), List.forall_mem_cons.mpr ⟨
  s_iload_n (k := 3) (show decode (cod 181) 737 = .ok (.iload_n 3, 1) by decide +kernel), List.forall_mem_cons.mpr ⟨
  s_iconst (show decode (cod 181) 738 = .ok (.iconst 1, 1) by decide +kernel) rfl, List.forall_mem_cons.mpr ⟨
  s_iadd (show decode (cod 181) 739 = .ok (.iadd, 1) by decide +kernel), List.forall_mem_cons.mpr ⟨
  s_iaload (show decode (cod 181) 740 = .ok (.iaload, 1) by decide +kernel), List.forall_mem_cons.mpr ⟨
  s_invK rfl (rcv_virt (show decode (cod 181) 741 = .ok (.invokevirtual 86, 3) by decide +kernel) cld_181_171 ⟨11, _, _, rfl, by decide, rfl⟩ wd_936 wd_937 wd_938), List.forall_mem_cons.mpr ⟨
  s_icmpeq (show decode (cod 181) 744 = .ok (.if_icmp .eq 157, 3) by decide +kernel) (by decide), List.forall_mem_cons.mpr ⟨
  s_iconst (show decode (cod 181) 747 = .ok (.iconst 0, 1) by decide +kernel) rfl, List.forall_mem_cons.mpr ⟨
  s_ret (show decode (cod 181) 748 = .ok (.ireturn, 1) by decide +kernel) rZ_ok (fun _ => rZ_b), List.forall_mem_cons.mpr ⟨
  s_aload_n (k := 1) (show decode (cod 181) 749 = .ok (.aload_n 1, 1) by decide +kernel), List.forall_mem_cons.mpr ⟨
  s_aload_n (k := 0) (show decode (cod 181) 750 = .ok (.aload_n 0, 1) by decide +kernel), List.forall_mem_cons.mpr ⟨
  s_iload_n (k := 3) (show decode (cod 181) 751 = .ok (.iload_n 3, 1) by decide +kernel), List.forall_mem_cons.mpr ⟨
  s_iconst (show decode (cod 181) 752 = .ok (.iconst 1, 1) by decide +kernel) rfl, List.forall_mem_cons.mpr ⟨
  s_iadd (show decode (cod 181) 753 = .ok (.iadd, 1) by decide +kernel), List.forall_mem_cons.mpr ⟨
  s_iaload (show decode (cod 181) 754 = .ok (.iaload, 1) by decide +kernel), List.forall_mem_cons.mpr ⟨
  s_aload_n (k := 0) (show decode (cod 181) 755 = .ok (.aload_n 0, 1) by decide +kernel), List.forall_mem_cons.mpr ⟨
  s_iload_n (k := 3) (show decode (cod 181) 756 = .ok (.iload_n 3, 1) by decide +kernel), List.forall_mem_cons.mpr ⟨
  s_iconst (show decode (cod 181) 757 = .ok (.iconst 2, 1) by decide +kernel) rfl, List.forall_mem_cons.mpr ⟨
  s_iadd (show decode (cod 181) 758 = .ok (.iadd, 1) by decide +kernel), List.forall_mem_cons.mpr ⟨
  s_iaload (show decode (cod 181) 759 = .ok (.iaload, 1) by decide +kernel), List.forall_mem_cons.mpr ⟨
  s_aload_n (k := 0) (show decode (cod 181) 760 = .ok (.aload_n 0, 1) by decide +kernel), List.forall_mem_cons.mpr ⟨
  s_iload_n (k := 3) (show decode (cod 181) 761 = .ok (.iload_n 3, 1) by decide +kernel), List.forall_mem_cons.mpr ⟨
  s_iconst (show decode (cod 181) 762 = .ok (.iconst 3, 1) by decide +kernel) rfl, List.forall_mem_cons.mpr ⟨
  s_iadd (show decode (cod 181) 763 = .ok (.iadd, 1) by decide +kernel), List.forall_mem_cons.mpr ⟨
  s_iaload (show decode (cod 181) 764 = .ok (.iaload, 1) by decide +kernel), List.forall_mem_cons.mpr ⟨
  s_aload_n (k := 0) (show decode (cod 181) 765 = .ok (.aload_n 0, 1) by decide +kernel), List.forall_mem_cons.mpr ⟨
  s_iload_n (k := 3) (show decode (cod 181) 766 = .ok (.iload_n 3, 1) by decide +kernel), List.forall_mem_cons.mpr ⟨
  s_iconst (show decode (cod 181) 767 = .ok (.iconst 4, 1) by decide +kernel) rfl, List.forall_mem_cons.mpr ⟨
  s_iadd (show decode (cod 181) 768 = .ok (.iadd, 1) by decide +kernel), List.forall_mem_cons.mpr ⟨
  s_iaload (show decode (cod 181) 769 = .ok (.iaload, 1) by decide +kernel), List.forall_mem_cons.mpr ⟨
  s_invK rfl (rcv_virt (show decode (cod 181) 770 = .ok (.invokevirtual 87, 3) by decide +kernel) cld_181_107 ⟨10, _, _, rfl, by decide, rfl⟩ wd_940 wd_941 wd_942), List.forall_mem_cons.mpr ⟨
  s_aload_n (k := 2) (show decode (cod 181) 773 = .ok (.aload_n 2, 1) by decide +kernel), List.forall_mem_cons.mpr ⟨
  s_aload_n (k := 0) (show decode (cod 181) 774 = .ok (.aload_n 0, 1) by decide +kernel), List.forall_mem_cons.mpr ⟨
  s_iload_n (k := 3) (show decode (cod 181) 775 = .ok (.iload_n 3, 1) by decide +kernel), List.forall_mem_cons.mpr ⟨
  s_iconst (show decode (cod 181) 776 = .ok (.iconst 1, 1) by decide +kernel) rfl, List.forall_mem_cons.mpr ⟨
  s_iadd (show decode (cod 181) 777 = .ok (.iadd, 1) by decide +kernel), fun _ h => by cases h⟩⟩⟩⟩⟩⟩⟩⟩⟩⟩⟩⟩⟩⟩⟩⟩⟩⟩⟩⟩⟩⟩⟩⟩⟩⟩⟩⟩⟩⟩⟩⟩⟩⟩⟩⟩⟩⟩⟩⟩
set_option maxRecDepth 100000 in
set_option maxHeartbeats 4000000 in
theorem si181_14 (X : CX) (l : Launch) : ∀ q ∈ ([(778, iRI 779 qAI), (779, iP 780 (fAld 0)), (780, iP 781 (fIld 3)), (781, iP 782 (fK (.inl 2))), (782, iP 783 (f2I (fun x y => x + y))), (783, iRI 784 qAI), (784, iP 785 (fAld 0)), (785, iP 786 (fIld 3)), (786, iP 787 (fK (.inl 3))), (787, iP 788 (f2I (fun x y => x + y))), (788, iRI 789 qAI), (789, iP 790 (fAld 0)), (790, iP 791 (fIld 3)), (791, iP 792 (fK (.inl 4))), (792, iP 793 (f2I (fun x y => x + y))), (793, iRI 794 qAI), (794, iCK 797 12 173 5 5 1), (797, iB 800 901 (b2 (fun x y => decide (x = y)))), (800, iP 801 (fK (.inl 0))), (801, iRet rZ), (802, iP 803 (fAld 1)), (803, iP 804 (fAld 0)), (804, iP 805 (fIld 3)), (805, iP 806 (fK (.inl 1))), (806, iP 807 (f2I (fun x y => x + y))), (807, iRI 808 qAI), (808, iCK 811 11 123 2 2 1), (811, iP 812 (fAld 2)), (812, iP 813 (fAld 0)), (813, iP 814 (fIld 3)), (814, iP 815 (fK (.inl 1))), (815, iP 816 (f2I (fun x y => x + y))), (816, iRI 817 qAI), (817, iCK 820 12 178 2 2 1), (820, iB 823 901 (b2 (fun x y => decide (x = y)))), (823, iP 824 (fK (.inl 0))), (824, iRet rZ), (825, iP 826 (fAld 1)), (826, iP 827 (fAld 0)), (827, iP 828 (fIld 3))] : List (Nat × AS)), SI X l 181 q.1 q.2 := List.forall_mem_cons.mpr ⟨
  s_iaload (show decode (cod 181) 778 = .ok (.iaload, 1) by decide +kernel), List.forall_mem_cons.mpr ⟨
  s_aload_n (k := 0) (show decode (cod 181) 779 = .ok (.aload_n 0, 1) by decide +kernel), List.forall_mem_cons.mpr ⟨
  s_iload_n (k := 3) (show decode (cod 181) 780 = .ok (.iload_n 3, 1) by decide +kernel), List.forall_mem_cons.mpr ⟨
  s_iconst (show decode (cod 181) 781 = .ok (.iconst 2, 1) by decide +kernel) rfl, List.forall_mem_cons.mpr ⟨
  s_iadd (show decode (cod 181) 782 = .ok (.iadd, 1) by decide +kernel), List.forall_mem_cons.mpr ⟨
  s_iaload (show decode (cod 181) 783 = .ok (.iaload, 1) by decide +kernel), List.forall_mem_cons.mpr ⟨
  s_aload_n (k := 0) (show decode (cod 181) 784 = .ok (.aload_n 0, 1) by decide +kernel), List.forall_mem_cons.mpr ⟨
  s_iload_n (k := 3) (show decode (cod 181) 785 = .ok (.iload_n 3, 1) by decide +kernel), List.forall_mem_cons.mpr ⟨
  s_iconst (show decode (cod 181) 786 = .ok (.iconst 3, 1) by decide +kernel) rfl, List.forall_mem_cons.mpr ⟨
  s_iadd (show decode (cod 181) 787 = .ok (.iadd, 1) by decide +kernel), List.forall_mem_cons.mpr ⟨
  s_iaload (show decode (cod 181) 788 = .ok (.iaload, 1) by decide +kernel), List.forall_mem_cons.mpr ⟨
  s_aload_n (k := 0) (show decode (cod 181) 789 = .ok (.aload_n 0, 1) by decide +kernel), List.forall_mem_cons.mpr ⟨
  s_iload_n (k := 3) (show decode (cod 181) 790 = .ok (.iload_n 3, 1) by decide +kernel), List.forall_mem_cons.mpr ⟨
  s_iconst (show decode (cod 181) 791 = .ok (.iconst 4, 1) by decide +kernel) rfl, List.forall_mem_cons.mpr ⟨
  s_iadd (show decode (cod 181) 792 = .ok (.iadd, 1) by decide +kernel), List.forall_mem_cons.mpr ⟨
  s_iaload (show decode (cod 181) 793 = .ok (.iaload, 1) by decide +kernel), List.forall_mem_cons.mpr ⟨
  s_invK rfl (rcv_virt (show decode (cod 181) 794 = .ok (.invokevirtual 91, 3) by decide +kernel) cld_181_173 ⟨11, _, _, rfl, by decide, rfl⟩ wd_944 wd_945 wd_946), List.forall_mem_cons.mpr ⟨
  s_icmpeq (show decode (cod 181) 797 = .ok (.if_icmp .eq 104, 3) by decide +kernel) (by decide), List.forall_mem_cons.mpr ⟨
  s_iconst (show decode (cod 181) 800 = .ok (.iconst 0, 1) by decide +kernel) rfl, List.forall_mem_cons.mpr ⟨
  s_ret (show decode (cod 181) 801 = .ok (.ireturn, 1) by decide +kernel) rZ_ok (fun _ => rZ_b), List.forall_mem_cons.mpr ⟨
  s_aload_n (k := 1) (show decode (cod 181) 802 = .ok (.aload_n 1, 1) by decide +kernel), List.forall_mem_cons.mpr ⟨
  s_aload_n (k := 0) (show decode (cod 181) 803 = .ok (.aload_n 0, 1) by decide +kernel), List.forall_mem_cons.mpr ⟨
  s_iload_n (k := 3) (show decode (cod 181) 804 = .ok (.iload_n 3, 1) by decide +kernel), List.forall_mem_cons.mpr ⟨
  s_iconst (show decode (cod 181) 805 = .ok (.iconst 1, 1) by decide +kernel) rfl, List.forall_mem_cons.mpr ⟨
  s_iadd (show decode (cod 181) 806 = .ok (.iadd, 1) by decide +kernel), List.forall_mem_cons.mpr ⟨
  s_iaload (show decode (cod 181) 807 = .ok (.iaload, 1) by decide +kernel), List.forall_mem_cons.mpr ⟨
  s_invK rfl (rcv_virt (show decode (cod 181) 808 = .ok (.invokevirtual 92, 3) by decide +kernel) cld_181_123 ⟨10, _, _, rfl, by decide, rfl⟩ wd_948 wd_949 wd_950), List.forall_mem_cons.mpr ⟨
  s_aload_n (k := 2) (show decode (cod 181) 811 = .ok (.aload_n 2, 1) by decide +kernel), List.forall_mem_cons.mpr ⟨
  s_aload_n (k := 0) (show decode (cod 181) 812 = .ok (.aload_n 0, 1) by decide +kernel), List.forall_mem_cons.mpr ⟨
  s_iload_n (k := 3) (show decode (cod 181) 813 = .ok (.iload_n 3, 1) by decide +kernel), List.forall_mem_cons.mpr ⟨
  s_iconst (show decode (cod 181) 814 = .ok (.iconst 1, 1) by decide +kernel) rfl, List.forall_mem_cons.mpr ⟨
  s_iadd (show decode (cod 181) 815 = .ok (.iadd, 1) by decide +kernel), List.forall_mem_cons.mpr ⟨
  s_iaload (show decode (cod 181) 816 = .ok (.iaload, 1) by decide +kernel), List.forall_mem_cons.mpr ⟨
  s_invK rfl (rcv_virt (show decode (cod 181) 817 = .ok (.invokevirtual 95, 3) by decide +kernel) cld_181_178 ⟨11, _, _, rfl, by decide, rfl⟩ wd_952 wd_953 wd_954), List.forall_mem_cons.mpr ⟨
  s_icmpeq (show decode (cod 181) 820 = .ok (.if_icmp .eq 81, 3) by decide +kernel) (by decide), List.forall_mem_cons.mpr ⟨
  s_iconst (show decode (cod 181) 823 = .ok (.iconst 0, 1) by decide +kernel) rfl, List.forall_mem_cons.mpr ⟨
  s_ret (show decode (cod 181) 824 = .ok (.ireturn, 1) by decide +kernel) rZ_ok (fun _ => rZ_b), List.forall_mem_cons.mpr ⟨
  s_aload_n (k := 1) (show decode (cod 181) 825 = .ok (.aload_n 1, 1) by decide +kernel), List.forall_mem_cons.mpr ⟨
  s_aload_n (k := 0) (show decode (cod 181) 826 = .ok (.aload_n 0, 1) by decide +kernel), List.forall_mem_cons.mpr ⟨
  s_iload_n (k := 3) (show decode (cod 181) 827 = .ok (.iload_n 3, 1) by decide +kernel), fun _ h => by cases h⟩⟩⟩⟩⟩⟩⟩⟩⟩⟩⟩⟩⟩⟩⟩⟩⟩⟩⟩⟩⟩⟩⟩⟩⟩⟩⟩⟩⟩⟩⟩⟩⟩⟩⟩⟩⟩⟩⟩⟩
set_option maxRecDepth 100000 in
set_option maxHeartbeats 4000000 in
theorem si181_15 (X : CX) (l : Launch) : ∀ q ∈ ([(828, iP 829 (fK (.inl 1))), (829, iP 830 (f2I (fun x y => x + y))), (830, iRI 831 qAI), (831, iP 832 (fAld 0)), (832, iP 833 (fIld 3)), (833, iP 834 (fK (.inl 2))), (834, iP 835 (f2I (fun x y => x + y))), (835, iRI 836 qAI), (836, iP 837 (fAld 0)), (837, iP 838 (fIld 3)), (838, iP 839 (fK (.inl 3))), (839, iP 840 (f2I (fun x y => x + y))), (840, iRI 841 qAI), (841, iP 842 (fAld 0)), (842, iP 843 (fIld 3)), (843, iP 844 (fK (.inl 4))), (844, iP 845 (f2I (fun x y => x + y))), (845, iRI 846 qAI), (846, iCK 849 11 124 7 5 1), (849, iP 850 (fAld 2)), (850, iP 851 (fAld 0)), (851, iP 852 (fIld 3)), (852, iP 853 (fK (.inl 1))), (853, iP 854 (f2I (fun x y => x + y))), (854, iRI 855 qAI), (855, iP 856 (fAld 0)), (856, iP 857 (fIld 3)), (857, iP 858 (fK (.inl 2))), (858, iP 859 (f2I (fun x y => x + y))), (859, iRI 860 qAI), (860, iP 861 (fAld 0)), (861, iP 862 (fIld 3)), (862, iP 863 (fK (.inl 3))), (863, iP 864 (f2I (fun x y => x + y))), (864, iRI 865 qAI), (865, iP 866 (fAld 0)), (866, iP 867 (fIld 3)), (867, iP 868 (fK (.inl 4))), (868, iP 869 (f2I (fun x y => x + y))), (869, iRI 870 qAI)] : List (Nat × AS)), SI X l 181 q.1 q.2 := List.forall_mem_cons.mpr ⟨
  s_iconst (show decode (cod 181) 828 = .ok (.iconst 1, 1) by decide +kernel) rfl, List.forall_mem_cons.mpr ⟨
  s_iadd (show decode (cod 181) 829 = .ok (.iadd, 1) by decide +kernel), List.forall_mem_cons.mpr ⟨
  s_iaload (show decode (cod 181) 830 = .ok (.iaload, 1) by decide +kernel), List.forall_mem_cons.mpr ⟨
  s_aload_n (k := 0) (show decode (cod 181) 831 = .ok (.aload_n 0, 1) by decide +kernel), List.forall_mem_cons.mpr ⟨
  s_iload_n (k := 3) (show decode (cod 181) 832 = .ok (.iload_n 3, 1) by decide +kernel), List.forall_mem_cons.mpr ⟨
  s_iconst (show decode (cod 181) 833 = .ok (.iconst 2, 1) by decide +kernel) rfl, List.forall_mem_cons.mpr ⟨
  s_iadd (show decode (cod 181) 834 = .ok (.iadd, 1) by decide +kernel), List.forall_mem_cons.mpr ⟨
  s_iaload (show decode (cod 181) 835 = .ok (.iaload, 1) by decide +kernel), List.forall_mem_cons.mpr ⟨
  s_aload_n (k := 0) (show decode (cod 181) 836 = .ok (.aload_n 0, 1) by decide +kernel), List.forall_mem_cons.mpr ⟨
  s_iload_n (k := 3) (show decode (cod 181) 837 = .ok (.iload_n 3, 1) by decide +kernel), List.forall_mem_cons.mpr ⟨
  s_iconst (show decode (cod 181) 838 = .ok (.iconst 3, 1) by decide +kernel) rfl, List.forall_mem_cons.mpr ⟨
  s_iadd (show decode (cod 181) 839 = .ok (.iadd, 1) by decide +kernel), List.forall_mem_cons.mpr ⟨
  s_iaload (show decode (cod 181) 840 = .ok (.iaload, 1) by decide +kernel), List.forall_mem_cons.mpr ⟨
  s_aload_n (k := 0) (show decode (cod 181) 841 = .ok (.aload_n 0, 1) by decide +kernel), List.forall_mem_cons.mpr ⟨
  s_iload_n (k := 3) (show decode (cod 181) 842 = .ok (.iload_n 3, 1) by decide +kernel), List.forall_mem_cons.mpr ⟨
  s_iconst (show decode (cod 181) 843 = .ok (.iconst 4, 1) by decide +kernel) rfl, List.forall_mem_cons.mpr ⟨
  s_iadd (show decode (cod 181) 844 = .ok (.iadd, 1) by decide +kernel), List.forall_mem_cons.mpr ⟨
  s_iaload (show decode (cod 181) 845 = .ok (.iaload, 1) by decide +kernel), List.forall_mem_cons.mpr ⟨
  s_invK rfl (rcv_virt (show decode (cod 181) 846 = .ok (.invokevirtual 96, 3) by decide +kernel) cld_181_124 ⟨10, _, _, rfl, by decide, rfl⟩ wd_956 wd_957 wd_958), List.forall_mem_cons.mpr ⟨
  s_aload_n (k := 2) (show decode (cod 181) 849 = .ok (.aload_n 2, 1) by decide +kernel), List.forall_mem_cons.mpr ⟨
  s_aload_n (k := 0) (show decode (cod 181) 850 = .ok (.aload_n 0, 1) by decide +kernel), List.forall_mem_cons.mpr ⟨
  s_iload_n (k := 3) (show decode (cod 181) 851 = .ok (.iload_n 3, 1) by decide +kernel), List.forall_mem_cons.mpr ⟨
  s_iconst (show decode (cod 181) 852 = .ok (.iconst 1, 1) by decide +kernel) rfl, List.forall_mem_cons.mpr ⟨
  s_iadd (show decode (cod 181) 853 = .ok (.iadd, 1) by decide +kernel), List.forall_mem_cons.mpr ⟨
  s_iaload (show decode (cod 181) 854 = .ok (.iaload, 1) by decide +kernel), List.forall_mem_cons.mpr ⟨
  s_aload_n (k := 0) (show decode (cod 181) 855 = .ok (.aload_n 0, 1) by decide +kernel), List.forall_mem_cons.mpr ⟨
  s_iload_n (k := 3) (show decode (cod 181) 856 = .ok (.iload_n 3, 1) by decide +kernel), List.forall_mem_cons.mpr ⟨
  s_iconst (show decode (cod 181) 857 = .ok (.iconst 2, 1) by decide +kernel) rfl, List.forall_mem_cons.mpr ⟨
  s_iadd (show decode (cod 181) 858 = .ok (.iadd, 1) by decide +kernel), List.forall_mem_cons.mpr ⟨
  s_iaload (show decode (cod 181) 859 = .ok (.iaload, 1) by decide +kernel), List.forall_mem_cons.mpr ⟨
  s_aload_n (k := 0) (show decode (cod 181) 860 = .ok (.aload_n 0, 1) by decide +kernel), List.forall_mem_cons.mpr ⟨
  s_iload_n (k := 3) (show decode (cod 181) 861 = .ok (.iload_n 3, 1) by decide +kernel), List.forall_mem_cons.mpr ⟨
  s_iconst (show decode (cod 181) 862 = .ok (.iconst 3, 1) by decide +kernel) rfl, List.forall_mem_cons.mpr ⟨
  s_iadd (show decode (cod 181) 863 = .ok (.iadd, 1) by decide +kernel), List.forall_mem_cons.mpr ⟨
  s_iaload (show decode (cod 181) 864 = .ok (.iaload, 1) by decide +kernel), List.forall_mem_cons.mpr ⟨
  s_aload_n (k := 0) (show decode (cod 181) 865 = .ok (.aload_n 0, 1) by decide +kernel), List.forall_mem_cons.mpr ⟨
  s_iload_n (k := 3) (show decode (cod 181) 866 = .ok (.iload_n 3, 1) by decide +kernel), List.forall_mem_cons.mpr ⟨
  s_iconst (show decode (cod 181) 867 = .ok (.iconst 4, 1) by decide +kernel) rfl, List.forall_mem_cons.mpr ⟨
  s_iadd (show decode (cod 181) 868 = .ok (.iadd, 1) by decide +kernel), List.forall_mem_cons.mpr ⟨
  s_iaload (show decode (cod 181) 869 = .ok (.iaload, 1) by decide +kernel), fun _ h => by cases h⟩⟩⟩⟩⟩⟩⟩⟩⟩⟩⟩⟩⟩⟩⟩⟩⟩⟩⟩⟩⟩⟩⟩⟩⟩⟩⟩⟩⟩⟩⟩⟩⟩⟩⟩⟩⟩⟩⟩⟩
set_option maxRecDepth 100000 in
set_option maxHeartbeats 4000000 in
theorem si181_16 (X : CX) (l : Launch) : ∀ q ∈ ([(870, iCK 873 12 179 6 5 1), (873, iB 876 901 (b2 (fun x y => decide (x = y)))), (876, iP 877 (fK (.inl 0))), (877, iRet rZ), (878, iP 879 (fAld 1)), (879, iP 880 (fAld 0)), (880, iP 881 (fIld 3)), (881, iP 882 (fK (.inl 1))), (882, iP 883 (f2I (fun x y => x + y))), (883, iRI 884 qAI), (884, iCK 887 11 125 6 2 1), (887, iP 888 (fAld 2)), (888, iP 889 (fAld 0)), (889, iP 890 (fIld 3)), (890, iP 891 (fK (.inl 1))), (891, iP 892 (f2I (fun x y => x + y))), (892, iRI 893 qAI), (893, iCK 896 12 180 6 2 1), (896, iB 899 901 (b2 (fun x y => decide (x = y)))), (899, iP 900 (fK (.inl 0))), (900, iRet rZ), (901, iP 904 (fInc 3 8)), (904, iP 18 fGo), (907, iP 908 (fK (.inl 1))), (908, iRet rZ)] : List (Nat × AS)), SI X l 181 q.1 q.2 := List.forall_mem_cons.mpr ⟨
  s_invK rfl (rcv_virt (show decode (cod 181) 870 = .ok (.invokevirtual 99, 3) by decide +kernel) cld_181_179 ⟨11, _, _, rfl, by decide, rfl⟩ wd_960 wd_961 wd_962), List.forall_mem_cons.mpr ⟨
  s_icmpeq (show decode (cod 181) 873 = .ok (.if_icmp .eq 28, 3) by decide +kernel) (by decide), List.forall_mem_cons.mpr ⟨
  s_iconst (show decode (cod 181) 876 = .ok (.iconst 0, 1) by decide +kernel) rfl, List.forall_mem_cons.mpr ⟨
  s_ret (show decode (cod 181) 877 = .ok (.ireturn, 1) by decide +kernel) rZ_ok (fun _ => rZ_b), List.forall_mem_cons.mpr ⟨
  s_aload_n (k := 1) (show decode (cod 181) 878 = .ok (.aload_n 1, 1) by decide +kernel), List.forall_mem_cons.mpr ⟨
  s_aload_n (k := 0) (show decode (cod 181) 879 = .ok (.aload_n 0, 1) by decide +kernel), List.forall_mem_cons.mpr ⟨
  s_iload_n (k := 3) (show decode (cod 181) 880 = .ok (.iload_n 3, 1) by decide +kernel), List.forall_mem_cons.mpr ⟨
  s_iconst (show decode (cod 181) 881 = .ok (.iconst 1, 1) by decide +kernel) rfl, List.forall_mem_cons.mpr ⟨
  s_iadd (show decode (cod 181) 882 = .ok (.iadd, 1) by decide +kernel), List.forall_mem_cons.mpr ⟨
  s_iaload (show decode (cod 181) 883 = .ok (.iaload, 1) by decide +kernel), List.forall_mem_cons.mpr ⟨
  s_invK rfl (rcv_virt (show decode (cod 181) 884 = .ok (.invokevirtual 100, 3) by decide +kernel) cld_181_125 ⟨10, _, _, rfl, by decide, rfl⟩ wd_964 wd_965 wd_966), List.forall_mem_cons.mpr ⟨
  s_aload_n (k := 2) (show decode (cod 181) 887 = .ok (.aload_n 2, 1) by decide +kernel), List.forall_mem_cons.mpr ⟨
  s_aload_n (k := 0) (show decode (cod 181) 888 = .ok (.aload_n 0, 1) by decide +kernel), List.forall_mem_cons.mpr ⟨
  s_iload_n (k := 3) (show decode (cod 181) 889 = .ok (.iload_n 3, 1) by decide +kernel), List.forall_mem_cons.mpr ⟨
  s_iconst (show decode (cod 181) 890 = .ok (.iconst 1, 1) by decide +kernel) rfl, List.forall_mem_cons.mpr ⟨
  s_iadd (show decode (cod 181) 891 = .ok (.iadd, 1) by decide +kernel), List.forall_mem_cons.mpr ⟨
  s_iaload (show decode (cod 181) 892 = .ok (.iaload, 1) by decide +kernel), List.forall_mem_cons.mpr ⟨
  s_invK rfl (rcv_virt (show decode (cod 181) 893 = .ok (.invokevirtual 103, 3) by decide +kernel) cld_181_180 ⟨11, _, _, rfl, by decide, rfl⟩ wd_968 wd_969 wd_970), List.forall_mem_cons.mpr ⟨
  s_icmpeq (show decode (cod 181) 896 = .ok (.if_icmp .eq 5, 3) by decide +kernel) (by decide), List.forall_mem_cons.mpr ⟨
  s_iconst (show decode (cod 181) 899 = .ok (.iconst 0, 1) by decide +kernel) rfl, List.forall_mem_cons.mpr ⟨
  s_ret (show decode (cod 181) 900 = .ok (.ireturn, 1) by decide +kernel) rZ_ok (fun _ => rZ_b), List.forall_mem_cons.mpr ⟨
  s_iinc (show decode (cod 181) 901 = .ok (.iinc 3 8, 3) by decide +kernel) rfl, List.forall_mem_cons.mpr ⟨
  s_goto (show decode (cod 181) 904 = .ok (.goto (-886), 3) by decide +kernel) (by decide), List.forall_mem_cons.mpr ⟨
  s_iconst (show decode (cod 181) 907 = .ok (.iconst 1, 1) by decide +kernel) rfl, List.forall_mem_cons.mpr ⟨
  s_ret (show decode (cod 181) 908 = .ok (.ireturn, 1) by decide +kernel) rZ_ok (fun _ => rZ_b), fun _ h => by cases h⟩⟩⟩⟩⟩⟩⟩⟩⟩⟩⟩⟩⟩⟩⟩⟩⟩⟩⟩⟩⟩⟩⟩⟩⟩
set_option maxRecDepth 100000 in
theorem si181 (X : CX) (l : Launch) : ∀ q ∈ pt181, SI X l 181 q.1 q.2 := (List.forall_mem_append (l₁ := _) (l₂ := _)).mpr ⟨si181_0 X l, (List.forall_mem_append (l₁ := _) (l₂ := _)).mpr ⟨si181_1 X l, (List.forall_mem_append (l₁ := _) (l₂ := _)).mpr ⟨si181_2 X l, (List.forall_mem_append (l₁ := _) (l₂ := _)).mpr ⟨si181_3 X l, (List.forall_mem_append (l₁ := _) (l₂ := _)).mpr ⟨si181_4 X l, (List.forall_mem_append (l₁ := _) (l₂ := _)).mpr ⟨si181_5 X l, (List.forall_mem_append (l₁ := _) (l₂ := _)).mpr ⟨si181_6 X l, (List.forall_mem_append (l₁ := _) (l₂ := _)).mpr ⟨si181_7 X l, (List.forall_mem_append (l₁ := _) (l₂ := _)).mpr ⟨si181_8 X l, (List.forall_mem_append (l₁ := _) (l₂ := _)).mpr ⟨si181_9 X l, (List.forall_mem_append (l₁ := _) (l₂ := _)).mpr ⟨si181_10 X l, (List.forall_mem_append (l₁ := _) (l₂ := _)).mpr ⟨si181_11 X l, (List.forall_mem_append (l₁ := _) (l₂ := _)).mpr ⟨si181_12 X l, (List.forall_mem_append (l₁ := _) (l₂ := _)).mpr ⟨si181_13 X l, (List.forall_mem_append (l₁ := _) (l₂ := _)).mpr ⟨si181_14 X l, (List.forall_mem_append (l₁ := _) (l₂ := _)).mpr ⟨si181_15 X l, si181_16 X l⟩⟩⟩⟩⟩⟩⟩⟩⟩⟩⟩⟩⟩⟩⟩⟩
