set_option maxRecDepth 100000 in
set_option maxHeartbeats 4000000 in
theorem si39_0 (X : CX) (l : Launch) : ∀ q ∈ ([(0, iP 1 (fIld 1)), (1, iP 2 (fAld 0)), (2, iRI 5 (gtI 7)), (5, iP 6 (fK (.inl (-1)))), (6, iB 9 14 (b2 (fun x y => decide (x ≠ y)))), (9, iP 11 (fK (.inl 7))), (11, iP 16 fGo), (14, iP 16 (fK (.inl 8))), (16, iB 19 23 (b2 (fun x y => decide (x ≠ y)))), (19, iP 20 (fK (.inl 1))), (20, iP 24 fGo), (23, iP 24 (fK (.inl 0))), (24, iRet rZ)] : List (Nat × AS)), SI X l 39 q.1 q.2 := List.forall_mem_cons.mpr ⟨
  s_iload_n (k := 1) (show decode (cod 39) 0 = .ok (.iload_n 1, 1) by decide +kernel), List.forall_mem_cons.mpr ⟨
  s_aload_n (k := 0) (show decode (cod 39) 1 = .ok (.aload_n 0, 1) by decide +kernel), List.forall_mem_cons.mpr ⟨
  s_getI (show decode (cod 39) 2 = .ok (.getfield 9, 3) by decide +kernel) wd_178 (Or.inl rfl) (Or.inl rfl), List.forall_mem_cons.mpr ⟨
  s_iconst (show decode (cod 39) 5 = .ok (.iconst (-1), 1) by decide +kernel) rfl, List.forall_mem_cons.mpr ⟨
  s_icmpne (show decode (cod 39) 6 = .ok (.if_icmp .ne 8, 3) by decide +kernel) (by decide), List.forall_mem_cons.mpr ⟨
  s_bipush (show decode (cod 39) 9 = .ok (.bipush 7, 2) by decide +kernel) rfl, List.forall_mem_cons.mpr ⟨
  s_goto (show decode (cod 39) 11 = .ok (.goto 5, 3) by decide +kernel) (by decide), List.forall_mem_cons.mpr ⟨
  s_bipush (show decode (cod 39) 14 = .ok (.bipush 8, 2) by decide +kernel) rfl, List.forall_mem_cons.mpr ⟨
  s_icmpne (show decode (cod 39) 16 = .ok (.if_icmp .ne 7, 3) by decide +kernel) (by decide), List.forall_mem_cons.mpr ⟨
  s_iconst (show decode (cod 39) 19 = .ok (.iconst 1, 1) by decide +kernel) rfl, List.forall_mem_cons.mpr ⟨
  s_goto (show decode (cod 39) 20 = .ok (.goto 4, 3) by decide +kernel) (by decide), List.forall_mem_cons.mpr ⟨
  s_iconst (show decode (cod 39) 23 = .ok (.iconst 0, 1) by decide +kernel) rfl, List.forall_mem_cons.mpr ⟨
  s_ret (show decode (cod 39) 24 = .ok (.ireturn, 1) by decide +kernel) rZ_ok (fun _ => rZ_b), fun _ h => by cases h⟩⟩⟩⟩⟩⟩⟩⟩⟩⟩⟩⟩⟩
set_option maxRecDepth 100000 in
theorem si39 (X : CX) (l : Launch) : ∀ q ∈ pt39, SI X l 39 q.1 q.2 :=  si39_0 X l
set_option maxRecDepth 100000 in
set_option maxHeartbeats 4000000 in
theorem si40_0 (X : CX) (l : Launch) : ∀ q ∈ ([(0, iP 1 (fIld 1)), (1, iP 3 (fK (.inl 6))), (3, iB 6 10 (b2 (fun x y => decide (x ≠ y)))), (6, iP 7 (fK (.inl 1))), (7, iP 11 fGo), (10, iP 11 (fK (.inl 0))), (11, iRet rZ)] : List (Nat × AS)), SI X l 40 q.1 q.2 := List.forall_mem_cons.mpr ⟨
  s_iload_n (k := 1) (show decode (cod 40) 0 = .ok (.iload_n 1, 1) by decide +kernel), List.forall_mem_cons.mpr ⟨
  s_bipush (show decode (cod 40) 1 = .ok (.bipush 6, 2) by decide +kernel) rfl, List.forall_mem_cons.mpr ⟨
  s_icmpne (show decode (cod 40) 3 = .ok (.if_icmp .ne 7, 3) by decide +kernel) (by decide), List.forall_mem_cons.mpr ⟨
  s_iconst (show decode (cod 40) 6 = .ok (.iconst 1, 1) by decide +kernel) rfl, List.forall_mem_cons.mpr ⟨
  s_goto (show decode (cod 40) 7 = .ok (.goto 4, 3) by decide +kernel) (by decide), List.forall_mem_cons.mpr ⟨
  s_iconst (show decode (cod 40) 10 = .ok (.iconst 0, 1) by decide +kernel) rfl, List.forall_mem_cons.mpr ⟨
  s_ret (show decode (cod 40) 11 = .ok (.ireturn, 1) by decide +kernel) rZ_ok (fun _ => rZ_b), fun _ h => by cases h⟩⟩⟩⟩⟩⟩⟩
set_option maxRecDepth 100000 in
theorem si40 (X : CX) (l : Launch) : ∀ q ∈ pt40, SI X l 40 q.1 q.2 :=  si40_0 X l
set_option maxRecDepth 100000 in
set_option maxHeartbeats 4000000 in
theorem si41_0 (X : CX) (l : Launch) : ∀ q ∈ ([(0, iP 1 (fK (.inl 0))), (1, iRet rZ)] : List (Nat × AS)), SI X l 41 q.1 q.2 := List.forall_mem_cons.mpr ⟨
  s_iconst (show decode (cod 41) 0 = .ok (.iconst 0, 1) by decide +kernel) rfl, List.forall_mem_cons.mpr ⟨
  s_ret (show decode (cod 41) 1 = .ok (.ireturn, 1) by decide +kernel) rZ_ok (fun _ => rZ_b), fun _ h => by cases h⟩⟩
set_option maxRecDepth 100000 in
theorem si41 (X : CX) (l : Launch) : ∀ q ∈ pt41, SI X l 41 q.1 q.2 :=  si41_0 X l
set_option maxRecDepth 100000 in
set_option maxHeartbeats 4000000 in
theorem si42_0 (X : CX) (l : Launch) : ∀ q ∈ ([(0, iP 1 (fAld 0)), (1, iP 2 (fIld 1)), (2, iCK 5 11 15 2 2 3), (5, iP 6 (fAst 2)), (6, iP 7 (fAld 2)), (7, iB 10 13 bNN), (10, iP 12 (fK (.inl (-1000001)))), (12, iRet rI), (13, iP 14 (fAld 2)), (14, iRI 17 (gtI 23)), (17, iB 20 23 (b1 (fun x => decide (x ≠ 0)))), (20, iP 22 (fK (.inl (-1000002)))), (22, iRet rI), (23, iP 24 (fAld 2)), (24, iCK 27 7 43 3 1 0), (27, iP 28 (fAld 0)), (28, iP 29 (fAld 2)), (29, iRI 32 (gtI 21)), (32, iCK 35 11 28 3 2 0), (35, iP 36 (fAld 2)), (36, iRI 39 (gtI 23)), (39, iRet rI)] : List (Nat × AS)), SI X l 42 q.1 q.2 := List.forall_mem_cons.mpr ⟨
  s_aload_n (k := 0) (show decode (cod 42) 0 = .ok (.aload_n 0, 1) by decide +kernel), List.forall_mem_cons.mpr ⟨
  s_iload_n (k := 1) (show decode (cod 42) 1 = .ok (.iload_n 1, 1) by decide +kernel), List.forall_mem_cons.mpr ⟨
  s_invK rfl (rcv_virt (show decode (cod 42) 2 = .ok (.invokevirtual 56, 3) by decide +kernel) cld_42_15 ⟨10, _, _, rfl, by decide, rfl⟩ wd_102 wd_103 wd_104), List.forall_mem_cons.mpr ⟨
  s_astore_n (k := 2) (show decode (cod 42) 5 = .ok (.astore_n 2, 1) by decide +kernel), List.forall_mem_cons.mpr ⟨
  s_aload_n (k := 2) (show decode (cod 42) 6 = .ok (.aload_n 2, 1) by decide +kernel), List.forall_mem_cons.mpr ⟨
  s_ifnonnull (show decode (cod 42) 7 = .ok (.ifnonnull 6, 3) by decide +kernel) (by decide), List.forall_mem_cons.mpr ⟨
  s_ldc (show decode (cod 42) 10 = .ok (.ldc 55, 2) by decide +kernel) wd_100, List.forall_mem_cons.mpr ⟨
  s_ret (show decode (cod 42) 12 = .ok (.ireturn, 1) by decide +kernel) rI_ok (fun h => by cases h), List.forall_mem_cons.mpr ⟨
  s_aload_n (k := 2) (show decode (cod 42) 13 = .ok (.aload_n 2, 1) by decide +kernel), List.forall_mem_cons.mpr ⟨
  s_getI (show decode (cod 42) 14 = .ok (.getfield 66, 3) by decide +kernel) wd_112 (Or.inl rfl) (Or.inl rfl), List.forall_mem_cons.mpr ⟨
  s_ifne (show decode (cod 42) 17 = .ok (.ifCond .ne 6, 3) by decide +kernel) (by decide), List.forall_mem_cons.mpr ⟨
  s_ldc (show decode (cod 42) 20 = .ok (.ldc 80, 2) by decide +kernel) wd_185, List.forall_mem_cons.mpr ⟨
  s_ret (show decode (cod 42) 22 = .ok (.ireturn, 1) by decide +kernel) rI_ok (fun h => by cases h), List.forall_mem_cons.mpr ⟨
  s_aload_n (k := 2) (show decode (cod 42) 23 = .ok (.aload_n 2, 1) by decide +kernel), List.forall_mem_cons.mpr ⟨
  s_invK rfl (rcv_virt (show decode (cod 42) 24 = .ok (.invokevirtual 116, 3) by decide +kernel) cld_42_43 ⟨6, _, _, rfl, by decide, rfl⟩ wd_241 wd_242 wd_243), List.forall_mem_cons.mpr ⟨
  s_aload_n (k := 0) (show decode (cod 42) 27 = .ok (.aload_n 0, 1) by decide +kernel), List.forall_mem_cons.mpr ⟨
  s_aload_n (k := 2) (show decode (cod 42) 28 = .ok (.aload_n 2, 1) by decide +kernel), List.forall_mem_cons.mpr ⟨
  s_getI (show decode (cod 42) 29 = .ok (.getfield 119, 3) by decide +kernel) wd_143 (Or.inl rfl) (Or.inl rfl), List.forall_mem_cons.mpr ⟨
  s_invK rfl (rcv_virt (show decode (cod 42) 32 = .ok (.invokevirtual 122, 3) by decide +kernel) cld_42_28 ⟨10, _, _, rfl, by decide, rfl⟩ wd_145 wd_146 wd_147), List.forall_mem_cons.mpr ⟨
  s_aload_n (k := 2) (show decode (cod 42) 35 = .ok (.aload_n 2, 1) by decide +kernel), List.forall_mem_cons.mpr ⟨
  s_getI (show decode (cod 42) 36 = .ok (.getfield 66, 3) by decide +kernel) wd_112 (Or.inl rfl) (Or.inl rfl), List.forall_mem_cons.mpr ⟨
  s_ret (show decode (cod 42) 39 = .ok (.ireturn, 1) by decide +kernel) rI_ok (fun h => by cases h), fun _ h => by cases h⟩⟩⟩⟩⟩⟩⟩⟩⟩⟩⟩⟩⟩⟩⟩⟩⟩⟩⟩⟩⟩⟩
set_option maxRecDepth 100000 in
theorem si42 (X : CX) (l : Launch) : ∀ q ∈ pt42, SI X l 42 q.1 q.2 :=  si42_0 X l
set_option maxRecDepth 100000 in
set_option maxHeartbeats 4000000 in
theorem si43_0 (X : CX) (l : Launch) : ∀ q ∈ ([(0, iP 1 (fAld 0)), (1, iP 2 (fAld 0)), (2, iRI 5 (gtI 23)), (5, iP 6 (fK (.inl 1))), (6, iP 7 (f2I (fun x y => x - y))), (7, iCK 10 7 18 2 2 3), (10, iP 11 (fAst 1)), (11, iP 12 (fAld 1)), (12, iB 15 16 bNN), (15, iRet rV), (16, iP 17 (fAld 0)), (17, iP 18 fDup), (18, iRI 21 (gtI 23)), (21, iP 22 (fK (.inl 1))), (22, iP 23 (f2I (fun x y => x - y))), (23, iW 26 (ptI 23)), (26, iP 27 (fAld 0)), (27, iRR 30 (gtR 22)), (30, iP 31 (fAld 0)), (31, iRI 34 (gtI 23)), (34, iP 35 (fK (.inr (.inr 0)))), (35, iW 36 wAR), (36, iP 37 (fAld 0)), (37, iCK 40 7 23 4 1 0), (40, iP 41 (fAld 1)), (41, iRI 44 (gtI 1)), (44, iP 45 (fK (.inl 3))), (45, iB 48 56 (b2 (fun x y => decide (x = y)))), (48, iP 49 (fAld 1)), (49, iRI 52 (gtI 1)), (52, iP 53 (fK (.inl 5))), (53, iB 56 67 (b2 (fun x y => decide (x ≠ y)))), (56, iP 57 (fAld 0)), (57, iP 58 fDup), (58, iRI 61 (gtI 25)), (61, iP 62 (fK (.inl 1))), (62, iP 63 (f2I (fun x y => x - y))), (63, iW 66 (ptI 25)), (66, iRet rV), (67, iP 68 (fAld 0))] : List (Nat × AS)), SI X l 43 q.1 q.2 := List.forall_mem_cons.mpr ⟨
  s_aload_n (k := 0) (show decode (cod 43) 0 = .ok (.aload_n 0, 1) by decide +kernel), List.forall_mem_cons.mpr ⟨
  s_aload_n (k := 0) (show decode (cod 43) 1 = .ok (.aload_n 0, 1) by decide +kernel), List.forall_mem_cons.mpr ⟨
  s_getI (show decode (cod 43) 2 = .ok (.getfield 17, 3) by decide +kernel) wd_83 (Or.inl rfl) (Or.inl rfl), List.forall_mem_cons.mpr ⟨
  s_iconst (show decode (cod 43) 5 = .ok (.iconst 1, 1) by decide +kernel) rfl, List.forall_mem_cons.mpr ⟨
  s_isub (show decode (cod 43) 6 = .ok (.isub, 1) by decide +kernel), List.forall_mem_cons.mpr ⟨
  s_invK rfl (rcv_virt (show decode (cod 43) 7 = .ok (.invokevirtual 56, 3) by decide +kernel) cld_43_18 ⟨6, _, _, rfl, by decide, rfl⟩ wd_125 wd_126 wd_127), List.forall_mem_cons.mpr ⟨
  s_astore_n (k := 1) (show decode (cod 43) 10 = .ok (.astore_n 1, 1) by decide +kernel), List.forall_mem_cons.mpr ⟨
  s_aload_n (k := 1) (show decode (cod 43) 11 = .ok (.aload_n 1, 1) by decide +kernel), List.forall_mem_cons.mpr ⟨
  s_ifnonnull (show decode (cod 43) 12 = .ok (.ifnonnull 4, 3) by decide +kernel) (by decide), List.forall_mem_cons.mpr ⟨
  s_ret (show decode (cod 43) 15 = .ok (.return_, 1) by decide +kernel) rV_ok (fun h => by cases h), List.forall_mem_cons.mpr ⟨
  s_aload_n (k := 0) (show decode (cod 43) 16 = .ok (.aload_n 0, 1) by decide +kernel), List.forall_mem_cons.mpr ⟨
  s_dup (show decode (cod 43) 17 = .ok (.dup, 1) by decide +kernel), List.forall_mem_cons.mpr ⟨
  s_getI (show decode (cod 43) 18 = .ok (.getfield 17, 3) by decide +kernel) wd_83 (Or.inl rfl) (Or.inl rfl), List.forall_mem_cons.mpr ⟨
  s_iconst (show decode (cod 43) 21 = .ok (.iconst 1, 1) by decide +kernel) rfl, List.forall_mem_cons.mpr ⟨
  s_isub (show decode (cod 43) 22 = .ok (.isub, 1) by decide +kernel), List.forall_mem_cons.mpr ⟨
  s_putI (show decode (cod 43) 23 = .ok (.putfield 17, 3) by decide +kernel) wd_83 (Or.inl rfl) (Or.inl rfl) rfl, List.forall_mem_cons.mpr ⟨
  s_aload_n (k := 0) (show decode (cod 43) 26 = .ok (.aload_n 0, 1) by decide +kernel), List.forall_mem_cons.mpr ⟨
  s_getR (show decode (cod 43) 27 = .ok (.getfield 11, 3) by decide +kernel) wd_82 (Or.inl rfl) rfl, List.forall_mem_cons.mpr ⟨
  s_aload_n (k := 0) (show decode (cod 43) 30 = .ok (.aload_n 0, 1) by decide +kernel), List.forall_mem_cons.mpr ⟨
  s_getI (show decode (cod 43) 31 = .ok (.getfield 17, 3) by decide +kernel) wd_83 (Or.inl rfl) (Or.inl rfl), List.forall_mem_cons.mpr ⟨
  s_null (show decode (cod 43) 34 = .ok (.aconst_null, 1) by decide +kernel), List.forall_mem_cons.mpr ⟨
  s_aastore (show decode (cod 43) 35 = .ok (.aastore, 1) by decide +kernel), List.forall_mem_cons.mpr ⟨
  s_aload_n (k := 0) (show decode (cod 43) 36 = .ok (.aload_n 0, 1) by decide +kernel), List.forall_mem_cons.mpr ⟨
  s_invK rfl (rcv_virt (show decode (cod 43) 37 = .ok (.invokevirtual 68, 3) by decide +kernel) cld_43_23 ⟨6, _, _, rfl, by decide, rfl⟩ wd_151 wd_152 wd_153), List.forall_mem_cons.mpr ⟨
  s_aload_n (k := 1) (show decode (cod 43) 40 = .ok (.aload_n 1, 1) by decide +kernel), List.forall_mem_cons.mpr ⟨
  s_getI (show decode (cod 43) 41 = .ok (.getfield 71, 3) by decide +kernel) wd_154 (Or.inl rfl) (Or.inl rfl), List.forall_mem_cons.mpr ⟨
  s_iconst (show decode (cod 43) 44 = .ok (.iconst 3, 1) by decide +kernel) rfl, List.forall_mem_cons.mpr ⟨
  s_icmpeq (show decode (cod 43) 45 = .ok (.if_icmp .eq 11, 3) by decide +kernel) (by decide), List.forall_mem_cons.mpr ⟨
  s_aload_n (k := 1) (show decode (cod 43) 48 = .ok (.aload_n 1, 1) by decide +kernel), List.forall_mem_cons.mpr ⟨
  s_getI (show decode (cod 43) 49 = .ok (.getfield 71, 3) by decide +kernel) wd_154 (Or.inl rfl) (Or.inl rfl), List.forall_mem_cons.mpr ⟨
  s_iconst (show decode (cod 43) 52 = .ok (.iconst 5, 1) by decide +kernel) rfl, List.forall_mem_cons.mpr ⟨
  s_icmpne (show decode (cod 43) 53 = .ok (.if_icmp .ne 14, 3) by decide +kernel) (by decide), List.forall_mem_cons.mpr ⟨
  s_aload_n (k := 0) (show decode (cod 43) 56 = .ok (.aload_n 0, 1) by decide +kernel), List.forall_mem_cons.mpr ⟨
  s_dup (show decode (cod 43) 57 = .ok (.dup, 1) by decide +kernel), List.forall_mem_cons.mpr ⟨
  s_getI (show decode (cod 43) 58 = .ok (.getfield 25, 3) by decide +kernel) wd_85 (Or.inl rfl) (Or.inl rfl), List.forall_mem_cons.mpr ⟨
  s_iconst (show decode (cod 43) 61 = .ok (.iconst 1, 1) by decide +kernel) rfl, List.forall_mem_cons.mpr ⟨
  s_isub (show decode (cod 43) 62 = .ok (.isub, 1) by decide +kernel), List.forall_mem_cons.mpr ⟨
  s_putI (show decode (cod 43) 63 = .ok (.putfield 25, 3) by decide +kernel) wd_85 (Or.inl rfl) (Or.inl rfl) rfl, List.forall_mem_cons.mpr ⟨
  s_ret (show decode (cod 43) 66 = .ok (.return_, 1) by decide +kernel) rV_ok (fun h => by cases h), List.forall_mem_cons.mpr ⟨
  s_aload_n (k := 0) (show decode (cod 43) 67 = .ok (.aload_n 0, 1) by decide +kernel), fun _ h => by cases h⟩⟩⟩⟩⟩⟩⟩⟩⟩⟩⟩⟩⟩⟩⟩⟩⟩⟩⟩⟩⟩⟩⟩⟩⟩⟩⟩⟩⟩⟩⟩⟩⟩⟩⟩⟩⟩⟩⟩⟩
set_option maxRecDepth 100000 in
set_option maxHeartbeats 4000000 in
theorem si43_1 (X : CX) (l : Launch) : ∀ q ∈ ([(68, iP 69 (fAld 1)), (69, iRI 72 (gtI 4)), (72, iCK 75 7 18 2 2 3), (75, iP 76 (fAst 2)), (76, iP 77 (fAld 2)), (77, iB 80 106 bN), (80, iP 81 (fAld 2)), (81, iP 82 (fAld 1)), (82, iRI 85 (gtI 1)), (85, iP 86 (fK (.inl (-1)))), (86, iCV 89 3 0 [(1, 27, 3), (2, 25, 3), (3, 26, 3), (4, 27, 3), (10, 27, 3)]), (89, iP 90 (fAld 1)), (90, iRI 93 (gtI 1)), (93, iP 95 (fK (.inl 7))), (95, iB 98 106 (b2 (fun x y => decide (x = y)))), (98, iP 99 (fAld 0)), (99, iP 100 (fAld 2)), (100, iRI 103 (gtI 2)), (103, iCK 106 7 24 2 2 0), (106, iRet rV)] : List (Nat × AS)), SI X l 43 q.1 q.2 := List.forall_mem_cons.mpr ⟨
  s_aload_n (k := 1) (show decode (cod 43) 68 = .ok (.aload_n 1, 1) by decide +kernel), List.forall_mem_cons.mpr ⟨
  s_getI (show decode (cod 43) 69 = .ok (.getfield 81, 3) by decide +kernel) wd_160 (Or.inl rfl) (Or.inl rfl), List.forall_mem_cons.mpr ⟨
  s_invK rfl (rcv_virt (show decode (cod 43) 72 = .ok (.invokevirtual 56, 3) by decide +kernel) cld_43_18 ⟨6, _, _, rfl, by decide, rfl⟩ wd_125 wd_126 wd_127), List.forall_mem_cons.mpr ⟨
  s_astore_n (k := 2) (show decode (cod 43) 75 = .ok (.astore_n 2, 1) by decide +kernel), List.forall_mem_cons.mpr ⟨
  s_aload_n (k := 2) (show decode (cod 43) 76 = .ok (.aload_n 2, 1) by decide +kernel), List.forall_mem_cons.mpr ⟨
  s_ifnull (show decode (cod 43) 77 = .ok (.ifnull 29, 3) by decide +kernel) (by decide), List.forall_mem_cons.mpr ⟨
  s_aload_n (k := 2) (show decode (cod 43) 80 = .ok (.aload_n 2, 1) by decide +kernel), List.forall_mem_cons.mpr ⟨
  s_aload_n (k := 1) (show decode (cod 43) 81 = .ok (.aload_n 1, 1) by decide +kernel), List.forall_mem_cons.mpr ⟨
  s_getI (show decode (cod 43) 82 = .ok (.getfield 71, 3) by decide +kernel) wd_154 (Or.inl rfl) (Or.inl rfl), List.forall_mem_cons.mpr ⟨
  s_iconst (show decode (cod 43) 85 = .ok (.iconst (-1), 1) by decide +kernel) rfl, List.forall_mem_cons.mpr ⟨
  s_invV (List.forall_mem_cons.mpr ⟨⟨rfl, rcv_U (C := "StepsAhead$Call") (show decode (cod 43) 86 = .ok (.invokevirtual 84, 3) by decide +kernel) cld_43_27 ⟨0, _, _, rfl, by decide, rfl⟩ wd_162 wd_163 wd_164 wd_165⟩, List.forall_mem_cons.mpr ⟨⟨rfl, rcv_O (mx0 := 27) (C := "StepsAhead$Either") (show decode (cod 43) 86 = .ok (.invokevirtual 84, 3) by decide +kernel) cld_43_25 ⟨1, _, _, rfl, by decide, rfl⟩ ⟨rfl, rfl, by decide, by decide⟩ wd_161 wd_162 wd_168 wd_164 wd_169 wd_163⟩, List.forall_mem_cons.mpr ⟨⟨rfl, rcv_O (mx0 := 27) (C := "StepsAhead$Loop") (show decode (cod 43) 86 = .ok (.invokevirtual 84, 3) by decide +kernel) cld_43_26 ⟨2, _, _, rfl, by decide, rfl⟩ ⟨rfl, rfl, by decide, by decide⟩ wd_161 wd_162 wd_172 wd_164 wd_173 wd_163⟩, List.forall_mem_cons.mpr ⟨⟨rfl, rcv_virt (show decode (cod 43) 86 = .ok (.invokevirtual 84, 3) by decide +kernel) cld_43_27 ⟨3, _, _, rfl, by decide, rfl⟩ wd_162 wd_163 wd_174⟩, List.forall_mem_cons.mpr ⟨⟨rfl, rcv_U (C := "StepsAhead$Work") (show decode (cod 43) 86 = .ok (.invokevirtual 84, 3) by decide +kernel) cld_43_27 ⟨9, _, _, rfl, by decide, rfl⟩ wd_162 wd_163 wd_164 wd_175⟩, fun _ h => by cases h⟩⟩⟩⟩⟩), List.forall_mem_cons.mpr ⟨
  s_aload_n (k := 1) (show decode (cod 43) 89 = .ok (.aload_n 1, 1) by decide +kernel), List.forall_mem_cons.mpr ⟨
  s_getI (show decode (cod 43) 90 = .ok (.getfield 71, 3) by decide +kernel) wd_154 (Or.inl rfl) (Or.inl rfl), List.forall_mem_cons.mpr ⟨
  s_bipush (show decode (cod 43) 93 = .ok (.bipush 7, 2) by decide +kernel) rfl, List.forall_mem_cons.mpr ⟨
  s_icmpeq (show decode (cod 43) 95 = .ok (.if_icmp .eq 11, 3) by decide +kernel) (by decide), List.forall_mem_cons.mpr ⟨
  s_aload_n (k := 0) (show decode (cod 43) 98 = .ok (.aload_n 0, 1) by decide +kernel), List.forall_mem_cons.mpr ⟨
  s_aload_n (k := 2) (show decode (cod 43) 99 = .ok (.aload_n 2, 1) by decide +kernel), List.forall_mem_cons.mpr ⟨
  s_getI (show decode (cod 43) 100 = .ok (.getfield 74, 3) by decide +kernel) wd_155 (Or.inl rfl) (Or.inl rfl), List.forall_mem_cons.mpr ⟨
  s_invK rfl (rcv_virt (show decode (cod 43) 103 = .ok (.invokevirtual 77, 3) by decide +kernel) cld_43_24 ⟨6, _, _, rfl, by decide, rfl⟩ wd_157 wd_158 wd_159), List.forall_mem_cons.mpr ⟨
  s_ret (show decode (cod 43) 106 = .ok (.return_, 1) by decide +kernel) rV_ok (fun h => by cases h), fun _ h => by cases h⟩⟩⟩⟩⟩⟩⟩⟩⟩⟩⟩⟩⟩⟩⟩⟩⟩⟩⟩⟩
set_option maxRecDepth 100000 in
theorem si43 (X : CX) (l : Launch) : ∀ q ∈ pt43, SI X l 43 q.1 q.2 := (List.forall_mem_append (l₁ := _) (l₂ := _)).mpr ⟨si43_0 X l, si43_1 X l⟩
set_option maxRecDepth 100000 in
set_option maxHeartbeats 4000000 in
theorem si44_0 (X : CX) (l : Launch) : ∀ q ∈ ([(0, iP 1 (fAld 0)), (1, iP 2 (fIld 1)), (2, iP 3 (fIld 2)), (3, iCK 6 11 45 4 3 3), (6, iP 7 (fAst 3)), (7, iP 8 (fAld 3)), (8, iB 11 16 bNN), (11, iP 13 (fK (.inl (-1000001)))), (13, iP 20 fGo), (16, iP 17 (fAld 3)), (17, iRI 20 (gtI 1)), (20, iRet rI)] : List (Nat × AS)), SI X l 44 q.1 q.2 := List.forall_mem_cons.mpr ⟨
  s_aload_n (k := 0) (show decode (cod 44) 0 = .ok (.aload_n 0, 1) by decide +kernel), List.forall_mem_cons.mpr ⟨
  s_iload_n (k := 1) (show decode (cod 44) 1 = .ok (.iload_n 1, 1) by decide +kernel), List.forall_mem_cons.mpr ⟨
  s_iload_n (k := 2) (show decode (cod 44) 2 = .ok (.iload_n 2, 1) by decide +kernel), List.forall_mem_cons.mpr ⟨
  s_invK rfl (rcv_virt (show decode (cod 44) 3 = .ok (.invokevirtual 125, 3) by decide +kernel) cld_44_45 ⟨10, _, _, rfl, by decide, rfl⟩ wd_245 wd_246 wd_247), List.forall_mem_cons.mpr ⟨
  s_astore_n (k := 3) (show decode (cod 44) 6 = .ok (.astore_n 3, 1) by decide +kernel), List.forall_mem_cons.mpr ⟨
  s_aload_n (k := 3) (show decode (cod 44) 7 = .ok (.aload_n 3, 1) by decide +kernel), List.forall_mem_cons.mpr ⟨
  s_ifnonnull (show decode (cod 44) 8 = .ok (.ifnonnull 8, 3) by decide +kernel) (by decide), List.forall_mem_cons.mpr ⟨
  s_ldc (show decode (cod 44) 11 = .ok (.ldc 55, 2) by decide +kernel) wd_100, List.forall_mem_cons.mpr ⟨
  s_goto (show decode (cod 44) 13 = .ok (.goto 7, 3) by decide +kernel) (by decide), List.forall_mem_cons.mpr ⟨
  s_aload_n (k := 3) (show decode (cod 44) 16 = .ok (.aload_n 3, 1) by decide +kernel), List.forall_mem_cons.mpr ⟨
  s_getI (show decode (cod 44) 17 = .ok (.getfield 128, 3) by decide +kernel) wd_248 (Or.inl rfl) (Or.inl rfl), List.forall_mem_cons.mpr ⟨
  s_ret (show decode (cod 44) 20 = .ok (.ireturn, 1) by decide +kernel) rI_ok (fun h => by cases h), fun _ h => by cases h⟩⟩⟩⟩⟩⟩⟩⟩⟩⟩⟩⟩
set_option maxRecDepth 100000 in
theorem si44 (X : CX) (l : Launch) : ∀ q ∈ pt44, SI X l 44 q.1 q.2 :=  si44_0 X l
set_option maxRecDepth 100000 in
set_option maxHeartbeats 4000000 in
theorem si45_0 (X : CX) (l : Launch) : ∀ q ∈ ([(0, iP 1 (fAld 0)), (1, iP 2 (fIld 1)), (2, iCK 5 11 15 2 2 3), (5, iP 6 (fAst 3)), (6, iP 7 (fAld 3)), (7, iB 10 14 bNN), (10, iP 11 (fK (.inr (.inr 0)))), (11, iP 19 fGo), (14, iP 15 (fAld 3)), (15, iP 16 (fIld 2)), (16, iCK 19 7 18 2 2 3), (19, iRet rA)] : List (Nat × AS)), SI X l 45 q.1 q.2 := List.forall_mem_cons.mpr ⟨
  s_aload_n (k := 0) (show decode (cod 45) 0 = .ok (.aload_n 0, 1) by decide +kernel), List.forall_mem_cons.mpr ⟨
  s_iload_n (k := 1) (show decode (cod 45) 1 = .ok (.iload_n 1, 1) by decide +kernel), List.forall_mem_cons.mpr ⟨
  s_invK rfl (rcv_virt (show decode (cod 45) 2 = .ok (.invokevirtual 56, 3) by decide +kernel) cld_45_15 ⟨10, _, _, rfl, by decide, rfl⟩ wd_102 wd_103 wd_104), List.forall_mem_cons.mpr ⟨
  s_astore_n (k := 3) (show decode (cod 45) 5 = .ok (.astore_n 3, 1) by decide +kernel), List.forall_mem_cons.mpr ⟨
  s_aload_n (k := 3) (show decode (cod 45) 6 = .ok (.aload_n 3, 1) by decide +kernel), List.forall_mem_cons.mpr ⟨
  s_ifnonnull (show decode (cod 45) 7 = .ok (.ifnonnull 7, 3) by decide +kernel) (by decide), List.forall_mem_cons.mpr ⟨
  s_null (show decode (cod 45) 10 = .ok (.aconst_null, 1) by decide +kernel), List.forall_mem_cons.mpr ⟨
  s_goto (show decode (cod 45) 11 = .ok (.goto 8, 3) by decide +kernel) (by decide), List.forall_mem_cons.mpr ⟨
  s_aload_n (k := 3) (show decode (cod 45) 14 = .ok (.aload_n 3, 1) by decide +kernel), List.forall_mem_cons.mpr ⟨
  s_iload_n (k := 2) (show decode (cod 45) 15 = .ok (.iload_n 2, 1) by decide +kernel), List.forall_mem_cons.mpr ⟨
  s_invK rfl (rcv_virt (show decode (cod 45) 16 = .ok (.invokevirtual 216, 3) by decide +kernel) cld_45_18 ⟨6, _, _, rfl, by decide, rfl⟩ wd_249 wd_126 wd_127), List.forall_mem_cons.mpr ⟨
  s_ret (show decode (cod 45) 19 = .ok (.areturn, 1) by decide +kernel) rA_ok (fun h => by cases h), fun _ h => by cases h⟩⟩⟩⟩⟩⟩⟩⟩⟩⟩⟩⟩
set_option maxRecDepth 100000 in
theorem si45 (X : CX) (l : Launch) : ∀ q ∈ pt45, SI X l 45 q.1 q.2 :=  si45_0 X l
set_option maxRecDepth 100000 in
set_option maxHeartbeats 4000000 in
theorem si46_0 (X : CX) (l : Launch) : ∀ q ∈ ([(0, iP 1 (fAld 0)), (1, iP 2 (fIld 1)), (2, iP 3 (fIld 2)), (3, iCK 6 11 45 4 3 3), (6, iP 8 (fAst 4)), (8, iP 10 (fAld 4)), (10, iB 13 23 bN), (13, iP 14 (fIld 3)), (14, iB 17 23 (b1 (fun x => decide (x < 0)))), (17, iP 18 (fIld 3)), (18, iP 20 (fK (.inl 8))), (20, iB 23 26 (b2 (fun x y => decide (x ≤ y)))), (23, iP 25 (fK (.inl (-1000001)))), (25, iRet rI), (26, iP 28 (fAld 4)), (28, iP 29 (fIld 3)), (29, iCV 32 2 1 [(1, 47, 2), (2, 48, 2), (3, 47, 2), (4, 48, 2), (10, 48, 2)]), (32, iB 35 39 (b1 (fun x => decide (x = 0)))), (35, iP 36 (fK (.inl 1))), (36, iP 40 fGo), (39, iP 40 (fK (.inl 0))), (40, iRet rI)] : List (Nat × AS)), SI X l 46 q.1 q.2 := List.forall_mem_cons.mpr ⟨
  s_aload_n (k := 0) (show decode (cod 46) 0 = .ok (.aload_n 0, 1) by decide +kernel), List.forall_mem_cons.mpr ⟨
  s_iload_n (k := 1) (show decode (cod 46) 1 = .ok (.iload_n 1, 1) by decide +kernel), List.forall_mem_cons.mpr ⟨
  s_iload_n (k := 2) (show decode (cod 46) 2 = .ok (.iload_n 2, 1) by decide +kernel), List.forall_mem_cons.mpr ⟨
  s_invK rfl (rcv_virt (show decode (cod 46) 3 = .ok (.invokevirtual 125, 3) by decide +kernel) cld_46_45 ⟨10, _, _, rfl, by decide, rfl⟩ wd_245 wd_246 wd_247), List.forall_mem_cons.mpr ⟨
  s_astore (k := 4) (show decode (cod 46) 6 = .ok (.astore 4, 2) by decide +kernel), List.forall_mem_cons.mpr ⟨
  s_aload (k := 4) (show decode (cod 46) 8 = .ok (.aload 4, 2) by decide +kernel), List.forall_mem_cons.mpr ⟨
  s_ifnull (show decode (cod 46) 10 = .ok (.ifnull 13, 3) by decide +kernel) (by decide), List.forall_mem_cons.mpr ⟨
  s_iload_n (k := 3) (show decode (cod 46) 13 = .ok (.iload_n 3, 1) by decide +kernel), List.forall_mem_cons.mpr ⟨
  s_iflt (show decode (cod 46) 14 = .ok (.ifCond .lt 9, 3) by decide +kernel) (by decide), List.forall_mem_cons.mpr ⟨
  s_iload_n (k := 3) (show decode (cod 46) 17 = .ok (.iload_n 3, 1) by decide +kernel), List.forall_mem_cons.mpr ⟨
  s_bipush (show decode (cod 46) 18 = .ok (.bipush 8, 2) by decide +kernel) rfl, List.forall_mem_cons.mpr ⟨
  s_icmple (show decode (cod 46) 20 = .ok (.if_icmp .le 6, 3) by decide +kernel) (by decide), List.forall_mem_cons.mpr ⟨
  s_ldc (show decode (cod 46) 23 = .ok (.ldc 55, 2) by decide +kernel) wd_100, List.forall_mem_cons.mpr ⟨
  s_ret (show decode (cod 46) 25 = .ok (.ireturn, 1) by decide +kernel) rI_ok (fun h => by cases h), List.forall_mem_cons.mpr ⟨
  s_aload (k := 4) (show decode (cod 46) 26 = .ok (.aload 4, 2) by decide +kernel), List.forall_mem_cons.mpr ⟨
  s_iload_n (k := 3) (show decode (cod 46) 28 = .ok (.iload_n 3, 1) by decide +kernel), List.forall_mem_cons.mpr ⟨
  s_invV (List.forall_mem_cons.mpr ⟨⟨rfl, rcv_O (mx0 := 48) (C := "StepsAhead$Call") (show decode (cod 46) 29 = .ok (.invokevirtual 131, 3) by decide +kernel) cld_46_47 ⟨0, _, _, rfl, by decide, rfl⟩ ⟨rfl, rfl, by decide, by decide⟩ wd_251 wd_252 wd_253 wd_254 wd_255 wd_256⟩, List.forall_mem_cons.mpr ⟨⟨rfl, rcv_U (C := "StepsAhead$Either") (show decode (cod 46) 29 = .ok (.invokevirtual 131, 3) by decide +kernel) cld_46_48 ⟨1, _, _, rfl, by decide, rfl⟩ wd_252 wd_256 wd_254 wd_257⟩, List.forall_mem_cons.mpr ⟨⟨rfl, rcv_O (mx0 := 48) (C := "StepsAhead$Loop") (show decode (cod 46) 29 = .ok (.invokevirtual 131, 3) by decide +kernel) cld_46_47 ⟨2, _, _, rfl, by decide, rfl⟩ ⟨rfl, rfl, by decide, by decide⟩ wd_251 wd_252 wd_253 wd_254 wd_258 wd_256⟩, List.forall_mem_cons.mpr ⟨⟨rfl, rcv_virt (show decode (cod 46) 29 = .ok (.invokevirtual 131, 3) by decide +kernel) cld_46_48 ⟨3, _, _, rfl, by decide, rfl⟩ wd_252 wd_256 wd_259⟩, List.forall_mem_cons.mpr ⟨⟨rfl, rcv_U (C := "StepsAhead$Work") (show decode (cod 46) 29 = .ok (.invokevirtual 131, 3) by decide +kernel) cld_46_48 ⟨9, _, _, rfl, by decide, rfl⟩ wd_252 wd_256 wd_254 wd_260⟩, fun _ h => by cases h⟩⟩⟩⟩⟩), List.forall_mem_cons.mpr ⟨
  s_ifeq (show decode (cod 46) 32 = .ok (.ifCond .eq 7, 3) by decide +kernel) (by decide), List.forall_mem_cons.mpr ⟨
  s_iconst (show decode (cod 46) 35 = .ok (.iconst 1, 1) by decide +kernel) rfl, List.forall_mem_cons.mpr ⟨
  s_goto (show decode (cod 46) 36 = .ok (.goto 4, 3) by decide +kernel) (by decide), List.forall_mem_cons.mpr ⟨
  s_iconst (show decode (cod 46) 39 = .ok (.iconst 0, 1) by decide +kernel) rfl, List.forall_mem_cons.mpr ⟨
  s_ret (show decode (cod 46) 40 = .ok (.ireturn, 1) by decide +kernel) rI_ok (fun h => by cases h), fun _ h => by cases h⟩⟩⟩⟩⟩⟩⟩⟩⟩⟩⟩⟩⟩⟩⟩⟩⟩⟩⟩⟩⟩⟩
set_option maxRecDepth 100000 in
theorem si46 (X : CX) (l : Launch) : ∀ q ∈ pt46, SI X l 46 q.1 q.2 :=  si46_0 X l
set_option maxRecDepth 100000 in
set_option maxHeartbeats 4000000 in
theorem si47_0 (X : CX) (l : Launch) : ∀ q ∈ ([(0, iP 1 (fIld 1)), (1, iP 2 (fK (.inl 2))), (2, iB 5 13 (b2 (fun x y => decide (x = y)))), (5, iP 6 (fAld 0)), (6, iP 7 (fIld 1)), (7, iCV 10 2 1 [(1, 48, 2), (3, 48, 2)]), (10, iB 13 17 (b1 (fun x => decide (x = 0)))), (13, iP 14 (fK (.inl 1))), (14, iP 18 fGo), (17, iP 18 (fK (.inl 0))), (18, iRet rZ)] : List (Nat × AS)), SI X l 47 q.1 q.2 := List.forall_mem_cons.mpr ⟨
  s_iload_n (k := 1) (show decode (cod 47) 0 = .ok (.iload_n 1, 1) by decide +kernel), List.forall_mem_cons.mpr ⟨
  s_iconst (show decode (cod 47) 1 = .ok (.iconst 2, 1) by decide +kernel) rfl, List.forall_mem_cons.mpr ⟨
  s_icmpeq (show decode (cod 47) 2 = .ok (.if_icmp .eq 11, 3) by decide +kernel) (by decide), List.forall_mem_cons.mpr ⟨
  s_aload_n (k := 0) (show decode (cod 47) 5 = .ok (.aload_n 0, 1) by decide +kernel), List.forall_mem_cons.mpr ⟨
  s_iload_n (k := 1) (show decode (cod 47) 6 = .ok (.iload_n 1, 1) by decide +kernel), List.forall_mem_cons.mpr ⟨
  s_invV (List.forall_mem_cons.mpr ⟨⟨rfl, rcv_super (C := "StepsAhead$Call") (show decode (cod 47) 7 = .ok (.invokespecial 15, 3) by decide +kernel) cld_47_48 (by decide) ⟨0, _, _, rfl, by decide, rfl⟩ wd_261 wd_256 wd_254 wd_262⟩, List.forall_mem_cons.mpr ⟨⟨rfl, rcv_super (C := "StepsAhead$Loop") (show decode (cod 47) 7 = .ok (.invokespecial 15, 3) by decide +kernel) cld_47_48 (by decide) ⟨2, _, _, rfl, by decide, rfl⟩ wd_261 wd_256 wd_254 wd_262⟩, fun _ h => by cases h⟩⟩), List.forall_mem_cons.mpr ⟨
  s_ifeq (show decode (cod 47) 10 = .ok (.ifCond .eq 7, 3) by decide +kernel) (by decide), List.forall_mem_cons.mpr ⟨
  s_iconst (show decode (cod 47) 13 = .ok (.iconst 1, 1) by decide +kernel) rfl, List.forall_mem_cons.mpr ⟨
  s_goto (show decode (cod 47) 14 = .ok (.goto 4, 3) by decide +kernel) (by decide), List.forall_mem_cons.mpr ⟨
  s_iconst (show decode (cod 47) 17 = .ok (.iconst 0, 1) by decide +kernel) rfl, List.forall_mem_cons.mpr ⟨
  s_ret (show decode (cod 47) 18 = .ok (.ireturn, 1) by decide +kernel) rZ_ok (fun _ => rZ_b), fun _ h => by cases h⟩⟩⟩⟩⟩⟩⟩⟩⟩⟩⟩
set_option maxRecDepth 100000 in
theorem si47 (X : CX) (l : Launch) : ∀ q ∈ pt47, SI X l 47 q.1 q.2 :=  si47_0 X l
set_option maxRecDepth 100000 in
set_option maxHeartbeats 4000000 in
theorem si48_0 (X : CX) (l : Launch) : ∀ q ∈ ([(0, iP 1 (fIld 1)), (1, iB 4 12 (b1 (fun x => decide (x = 0)))), (4, iP 5 (fIld 1)), (5, iP 6 (fAld 0)), (6, iRI 9 (gtI 1)), (9, iB 12 16 (b2 (fun x y => decide (x ≠ y)))), (12, iP 13 (fK (.inl 1))), (13, iP 17 fGo), (16, iP 17 (fK (.inl 0))), (17, iRet rZ)] : List (Nat × AS)), SI X l 48 q.1 q.2 := List.forall_mem_cons.mpr ⟨
  s_iload_n (k := 1) (show decode (cod 48) 0 = .ok (.iload_n 1, 1) by decide +kernel), List.forall_mem_cons.mpr ⟨
  s_ifeq (show decode (cod 48) 1 = .ok (.ifCond .eq 11, 3) by decide +kernel) (by decide), List.forall_mem_cons.mpr ⟨
  s_iload_n (k := 1) (show decode (cod 48) 4 = .ok (.iload_n 1, 1) by decide +kernel), List.forall_mem_cons.mpr ⟨
  s_aload_n (k := 0) (show decode (cod 48) 5 = .ok (.aload_n 0, 1) by decide +kernel), List.forall_mem_cons.mpr ⟨
  s_getI (show decode (cod 48) 6 = .ok (.getfield 9, 3) by decide +kernel) wd_135 (Or.inl rfl) (Or.inl rfl), List.forall_mem_cons.mpr ⟨
  s_icmpne (show decode (cod 48) 9 = .ok (.if_icmp .ne 7, 3) by decide +kernel) (by decide), List.forall_mem_cons.mpr ⟨
  s_iconst (show decode (cod 48) 12 = .ok (.iconst 1, 1) by decide +kernel) rfl, List.forall_mem_cons.mpr ⟨
  s_goto (show decode (cod 48) 13 = .ok (.goto 4, 3) by decide +kernel) (by decide), List.forall_mem_cons.mpr ⟨
  s_iconst (show decode (cod 48) 16 = .ok (.iconst 0, 1) by decide +kernel) rfl, List.forall_mem_cons.mpr ⟨
  s_ret (show decode (cod 48) 17 = .ok (.ireturn, 1) by decide +kernel) rZ_ok (fun _ => rZ_b), fun _ h => by cases h⟩⟩⟩⟩⟩⟩⟩⟩⟩⟩
set_option maxRecDepth 100000 in
theorem si48 (X : CX) (l : Launch) : ∀ q ∈ pt48, SI X l 48 q.1 q.2 :=  si48_0 X l
set_option maxRecDepth 100000 in
set_option maxHeartbeats 4000000 in
theorem si49_0 (X : CX) (l : Launch) : ∀ q ∈ ([(0, iP 1 (fAld 0)), (1, iP 2 (fIld 1)), (2, iP 3 (fIld 2)), (3, iCK 6 11 45 4 3 3), (6, iP 8 (fAst 4)), (8, iP 10 (fAld 4)), (10, iB 13 23 bN), (13, iP 14 (fIld 3)), (14, iB 17 23 (b1 (fun x => decide (x < 0)))), (17, iP 18 (fIld 3)), (18, iP 20 (fK (.inl 6))), (20, iB 23 26 (b2 (fun x y => decide (x < y)))), (23, iP 25 (fK (.inl (-1000001)))), (25, iRet rI), (26, iP 28 (fAld 4)), (28, iRI 31 (qInst [1, 3] [2, 4, 10])), (31, iB 34 51 (b1 (fun x => decide (x = 0)))), (34, iP 36 (fAld 4)), (36, iRR 39 (qCast [1, 3])), (39, iP 41 (fAst 5)), (41, iP 43 (fAld 5)), (43, iRR 46 (gtR 0)), (46, iP 47 (fIld 3)), (47, iRI 48 qAI), (48, iP 53 fGo), (51, iP 53 (fK (.inl (-1000005)))), (53, iRet rI)] : List (Nat × AS)), SI X l 49 q.1 q.2 := List.forall_mem_cons.mpr ⟨
  s_aload_n (k := 0) (show decode (cod 49) 0 = .ok (.aload_n 0, 1) by decide +kernel), List.forall_mem_cons.mpr ⟨
  s_iload_n (k := 1) (show decode (cod 49) 1 = .ok (.iload_n 1, 1) by decide +kernel), List.forall_mem_cons.mpr ⟨
  s_iload_n (k := 2) (show decode (cod 49) 2 = .ok (.iload_n 2, 1) by decide +kernel), List.forall_mem_cons.mpr ⟨
  s_invK rfl (rcv_virt (show decode (cod 49) 3 = .ok (.invokevirtual 125, 3) by decide +kernel) cld_49_45 ⟨10, _, _, rfl, by decide, rfl⟩ wd_245 wd_246 wd_247), List.forall_mem_cons.mpr ⟨
  s_astore (k := 4) (show decode (cod 49) 6 = .ok (.astore 4, 2) by decide +kernel), List.forall_mem_cons.mpr ⟨
  s_aload (k := 4) (show decode (cod 49) 8 = .ok (.aload 4, 2) by decide +kernel), List.forall_mem_cons.mpr ⟨
  s_ifnull (show decode (cod 49) 10 = .ok (.ifnull 13, 3) by decide +kernel) (by decide), List.forall_mem_cons.mpr ⟨
  s_iload_n (k := 3) (show decode (cod 49) 13 = .ok (.iload_n 3, 1) by decide +kernel), List.forall_mem_cons.mpr ⟨
  s_iflt (show decode (cod 49) 14 = .ok (.ifCond .lt 9, 3) by decide +kernel) (by decide), List.forall_mem_cons.mpr ⟨
  s_iload_n (k := 3) (show decode (cod 49) 17 = .ok (.iload_n 3, 1) by decide +kernel), List.forall_mem_cons.mpr ⟨
  s_bipush (show decode (cod 49) 18 = .ok (.bipush 6, 2) by decide +kernel) rfl, List.forall_mem_cons.mpr ⟨
  s_icmplt (show decode (cod 49) 20 = .ok (.if_icmp .lt 6, 3) by decide +kernel) (by decide), List.forall_mem_cons.mpr ⟨
  s_ldc (show decode (cod 49) 23 = .ok (.ldc 55, 2) by decide +kernel) wd_100, List.forall_mem_cons.mpr ⟨
  s_ret (show decode (cod 49) 25 = .ok (.ireturn, 1) by decide +kernel) rI_ok (fun h => by cases h), List.forall_mem_cons.mpr ⟨
  s_aload (k := 4) (show decode (cod 49) 26 = .ok (.aload 4, 2) by decide +kernel), List.forall_mem_cons.mpr ⟨
  s_inst (show decode (cod 49) 28 = .ok (.instanceof 134, 3) by decide +kernel) wd_263 (List.forall_mem_cons.mpr ⟨⟨"StepsAhead$Call", ⟨0, _, _, rfl, by decide, rfl⟩, Or.inr (by decide)⟩, List.forall_mem_cons.mpr ⟨⟨"StepsAhead$Loop", ⟨2, _, _, rfl, by decide, rfl⟩, Or.inr (by decide)⟩, fun _ h => by cases h⟩⟩) (List.forall_mem_cons.mpr ⟨⟨"StepsAhead$Either", ⟨1, _, _, rfl, by decide, rfl⟩, Or.inr ⟨rfl, by decide⟩⟩, List.forall_mem_cons.mpr ⟨⟨"StepsAhead$Op", ⟨3, _, _, rfl, by decide, rfl⟩, Or.inr ⟨rfl, by decide⟩⟩, List.forall_mem_cons.mpr ⟨⟨"StepsAhead$Work", ⟨9, _, _, rfl, by decide, rfl⟩, Or.inr ⟨rfl, by decide⟩⟩, fun _ h => by cases h⟩⟩⟩), List.forall_mem_cons.mpr ⟨
  s_ifeq (show decode (cod 49) 31 = .ok (.ifCond .eq 20, 3) by decide +kernel) (by decide), List.forall_mem_cons.mpr ⟨
  s_aload (k := 4) (show decode (cod 49) 34 = .ok (.aload 4, 2) by decide +kernel), List.forall_mem_cons.mpr ⟨
  s_cast (show decode (cod 49) 36 = .ok (.checkcast 134, 3) by decide +kernel) wd_263 (List.forall_mem_cons.mpr ⟨⟨"StepsAhead$Call", ⟨0, _, _, rfl, by decide, rfl⟩, Or.inr (by decide)⟩, List.forall_mem_cons.mpr ⟨⟨"StepsAhead$Loop", ⟨2, _, _, rfl, by decide, rfl⟩, Or.inr (by decide)⟩, fun _ h => by cases h⟩⟩), List.forall_mem_cons.mpr ⟨
  s_astore (k := 5) (show decode (cod 49) 39 = .ok (.astore 5, 2) by decide +kernel), List.forall_mem_cons.mpr ⟨
  s_aload (k := 5) (show decode (cod 49) 41 = .ok (.aload 5, 2) by decide +kernel), List.forall_mem_cons.mpr ⟨
  s_getR (show decode (cod 49) 43 = .ok (.getfield 136, 3) by decide +kernel) wd_264 (Or.inl rfl) rfl, List.forall_mem_cons.mpr ⟨
  s_iload_n (k := 3) (show decode (cod 49) 46 = .ok (.iload_n 3, 1) by decide +kernel), List.forall_mem_cons.mpr ⟨
  s_iaload (show decode (cod 49) 47 = .ok (.iaload, 1) by decide +kernel), List.forall_mem_cons.mpr ⟨
  s_goto (show decode (cod 49) 48 = .ok (.goto 5, 3) by decide +kernel) (by decide), List.forall_mem_cons.mpr ⟨
  s_ldc (show decode (cod 49) 51 = .ok (.ldc 139, 2) by decide +kernel) wd_265, List.forall_mem_cons.mpr ⟨
  s_ret (show decode (cod 49) 53 = .ok (.ireturn, 1) by decide +kernel) rI_ok (fun h => by cases h), fun _ h => by cases h⟩⟩⟩⟩⟩⟩⟩⟩⟩⟩⟩⟩⟩⟩⟩⟩⟩⟩⟩⟩⟩⟩⟩⟩⟩⟩⟩
set_option maxRecDepth 100000 in
theorem si49 (X : CX) (l : Launch) : ∀ q ∈ pt49, SI X l 49 q.1 q.2 :=  si49_0 X l
set_option maxRecDepth 100000 in
set_option maxHeartbeats 4000000 in
theorem si50_0 (X : CX) (l : Launch) : ∀ q ∈ ([(0, iP 1 (fAld 0)), (1, iP 2 (fIld 1)), (2, iP 3 (fIld 2)), (3, iCK 6 11 45 4 3 3), (6, iP 8 (fAst 4)), (8, iP 10 (fAld 4)), (10, iB 13 22 bN), (13, iP 14 (fIld 3)), (14, iB 17 22 (b1 (fun x => decide (x < 0)))), (17, iP 18 (fIld 3)), (18, iP 19 (fK (.inl 1))), (19, iB 22 25 (b2 (fun x y => decide (x ≤ y)))), (22, iP 24 (fK (.inl (-1000001)))), (24, iRet rI), (25, iP 26 (fAld 0)), (26, iRR 29 (gtR 47)), (29, iCK 32 9 51 1 1 0), (32, iP 33 (fIld 3)), (33, iB 36 48 (b1 (fun x => decide (x ≠ 0)))), (36, iP 38 (fAld 4)), (38, iP 39 (fAld 0)), (39, iRR 42 (gtR 47)), (42, iCV 45 2 1 [(1, 52, 2), (2, 57, 2), (3, 54, 2), (4, 57, 2), (10, 56, 2)]), (45, iP 57 fGo), (48, iP 50 (fAld 4)), (50, iP 51 (fAld 0)), (51, iRR 54 (gtR 47)), (54, iCV 57 2 1 [(1, 58, 2), (2, 59, 2), (3, 60, 2), (4, 62, 2), (10, 62, 2)]), (57, iRet rI)] : List (Nat × AS)), SI X l 50 q.1 q.2 := List.forall_mem_cons.mpr ⟨
  s_aload_n (k := 0) (show decode (cod 50) 0 = .ok (.aload_n 0, 1) by decide +kernel), List.forall_mem_cons.mpr ⟨
  s_iload_n (k := 1) (show decode (cod 50) 1 = .ok (.iload_n 1, 1) by decide +kernel), List.forall_mem_cons.mpr ⟨
  s_iload_n (k := 2) (show decode (cod 50) 2 = .ok (.iload_n 2, 1) by decide +kernel), List.forall_mem_cons.mpr ⟨
  s_invK rfl (rcv_virt (show decode (cod 50) 3 = .ok (.invokevirtual 125, 3) by decide +kernel) cld_50_45 ⟨10, _, _, rfl, by decide, rfl⟩ wd_245 wd_246 wd_247), List.forall_mem_cons.mpr ⟨
  s_astore (k := 4) (show decode (cod 50) 6 = .ok (.astore 4, 2) by decide +kernel), List.forall_mem_cons.mpr ⟨
  s_aload (k := 4) (show decode (cod 50) 8 = .ok (.aload 4, 2) by decide +kernel), List.forall_mem_cons.mpr ⟨
  s_ifnull (show decode (cod 50) 10 = .ok (.ifnull 12, 3) by decide +kernel) (by decide), List.forall_mem_cons.mpr ⟨
  s_iload_n (k := 3) (show decode (cod 50) 13 = .ok (.iload_n 3, 1) by decide +kernel), List.forall_mem_cons.mpr ⟨
  s_iflt (show decode (cod 50) 14 = .ok (.ifCond .lt 8, 3) by decide +kernel) (by decide), List.forall_mem_cons.mpr ⟨
  s_iload_n (k := 3) (show decode (cod 50) 17 = .ok (.iload_n 3, 1) by decide +kernel), List.forall_mem_cons.mpr ⟨
  s_iconst (show decode (cod 50) 18 = .ok (.iconst 1, 1) by decide +kernel) rfl, List.forall_mem_cons.mpr ⟨
  s_icmple (show decode (cod 50) 19 = .ok (.if_icmp .le 6, 3) by decide +kernel) (by decide), List.forall_mem_cons.mpr ⟨
  s_ldc (show decode (cod 50) 22 = .ok (.ldc 55, 2) by decide +kernel) wd_100, List.forall_mem_cons.mpr ⟨
  s_ret (show decode (cod 50) 24 = .ok (.ireturn, 1) by decide +kernel) rI_ok (fun h => by cases h), List.forall_mem_cons.mpr ⟨
  s_aload_n (k := 0) (show decode (cod 50) 25 = .ok (.aload_n 0, 1) by decide +kernel), List.forall_mem_cons.mpr ⟨
  s_getR (show decode (cod 50) 26 = .ok (.getfield 29, 3) by decide +kernel) wd_14 (Or.inl rfl) rfl, List.forall_mem_cons.mpr ⟨
  s_invK rfl (rcv_virt (show decode (cod 50) 29 = .ok (.invokevirtual 140, 3) by decide +kernel) cld_50_51 ⟨8, _, _, rfl, by decide, rfl⟩ wd_267 wd_268 wd_269), List.forall_mem_cons.mpr ⟨
  s_iload_n (k := 3) (show decode (cod 50) 32 = .ok (.iload_n 3, 1) by decide +kernel), List.forall_mem_cons.mpr ⟨
  s_ifne (show decode (cod 50) 33 = .ok (.ifCond .ne 15, 3) by decide +kernel) (by decide), List.forall_mem_cons.mpr ⟨
  s_aload (k := 4) (show decode (cod 50) 36 = .ok (.aload 4, 2) by decide +kernel), List.forall_mem_cons.mpr ⟨
  s_aload_n (k := 0) (show decode (cod 50) 38 = .ok (.aload_n 0, 1) by decide +kernel), List.forall_mem_cons.mpr ⟨
  s_getR (show decode (cod 50) 39 = .ok (.getfield 29, 3) by decide +kernel) wd_14 (Or.inl rfl) rfl, List.forall_mem_cons.mpr ⟨
  s_invV (List.forall_mem_cons.mpr ⟨⟨rfl, rcv_O (mx0 := 57) (C := "StepsAhead$Call") (show decode (cod 50) 42 = .ok (.invokevirtual 143, 3) by decide +kernel) cld_50_52 ⟨0, _, _, rfl, by decide, rfl⟩ ⟨rfl, rfl, by decide, by decide⟩ wd_271 wd_272 wd_273 wd_274 wd_275 wd_276⟩, List.forall_mem_cons.mpr ⟨⟨rfl, rcv_U (C := "StepsAhead$Either") (show decode (cod 50) 42 = .ok (.invokevirtual 143, 3) by decide +kernel) cld_50_57 ⟨1, _, _, rfl, by decide, rfl⟩ wd_272 wd_276 wd_274 wd_277⟩, List.forall_mem_cons.mpr ⟨⟨rfl, rcv_O (mx0 := 57) (C := "StepsAhead$Loop") (show decode (cod 50) 42 = .ok (.invokevirtual 143, 3) by decide +kernel) cld_50_54 ⟨2, _, _, rfl, by decide, rfl⟩ ⟨rfl, rfl, by decide, by decide⟩ wd_271 wd_272 wd_279 wd_274 wd_280 wd_276⟩, List.forall_mem_cons.mpr ⟨⟨rfl, rcv_virt (show decode (cod 50) 42 = .ok (.invokevirtual 143, 3) by decide +kernel) cld_50_57 ⟨3, _, _, rfl, by decide, rfl⟩ wd_272 wd_276 wd_281⟩, List.forall_mem_cons.mpr ⟨⟨rfl, rcv_O (mx0 := 57) (C := "StepsAhead$Work") (show decode (cod 50) 42 = .ok (.invokevirtual 143, 3) by decide +kernel) cld_50_56 ⟨9, _, _, rfl, by decide, rfl⟩ ⟨rfl, rfl, by decide, by decide⟩ wd_271 wd_272 wd_283 wd_274 wd_284 wd_276⟩, fun _ h => by cases h⟩⟩⟩⟩⟩), List.forall_mem_cons.mpr ⟨
  s_goto (show decode (cod 50) 45 = .ok (.goto 12, 3) by decide +kernel) (by decide), List.forall_mem_cons.mpr ⟨
  s_aload (k := 4) (show decode (cod 50) 48 = .ok (.aload 4, 2) by decide +kernel), List.forall_mem_cons.mpr ⟨
  s_aload_n (k := 0) (show decode (cod 50) 50 = .ok (.aload_n 0, 1) by decide +kernel), List.forall_mem_cons.mpr ⟨
  s_getR (show decode (cod 50) 51 = .ok (.getfield 29, 3) by decide +kernel) wd_14 (Or.inl rfl) rfl, List.forall_mem_cons.mpr ⟨
  s_invV (List.forall_mem_cons.mpr ⟨⟨rfl, rcv_O (mx0 := 62) (C := "StepsAhead$Call") (show decode (cod 50) 54 = .ok (.invokevirtual 147, 3) by decide +kernel) cld_50_58 ⟨0, _, _, rfl, by decide, rfl⟩ ⟨rfl, rfl, by decide, by decide⟩ wd_286 wd_287 wd_288 wd_289 wd_290 wd_291⟩, List.forall_mem_cons.mpr ⟨⟨rfl, rcv_O (mx0 := 62) (C := "StepsAhead$Either") (show decode (cod 50) 54 = .ok (.invokevirtual 147, 3) by decide +kernel) cld_50_59 ⟨1, _, _, rfl, by decide, rfl⟩ ⟨rfl, rfl, by decide, by decide⟩ wd_286 wd_287 wd_293 wd_289 wd_294 wd_291⟩, List.forall_mem_cons.mpr ⟨⟨rfl, rcv_O (mx0 := 62) (C := "StepsAhead$Loop") (show decode (cod 50) 54 = .ok (.invokevirtual 147, 3) by decide +kernel) cld_50_60 ⟨2, _, _, rfl, by decide, rfl⟩ ⟨rfl, rfl, by decide, by decide⟩ wd_286 wd_287 wd_296 wd_289 wd_297 wd_291⟩, List.forall_mem_cons.mpr ⟨⟨rfl, rcv_virt (show decode (cod 50) 54 = .ok (.invokevirtual 147, 3) by decide +kernel) cld_50_62 ⟨3, _, _, rfl, by decide, rfl⟩ wd_287 wd_291 wd_298⟩, List.forall_mem_cons.mpr ⟨⟨rfl, rcv_U (C := "StepsAhead$Work") (show decode (cod 50) 54 = .ok (.invokevirtual 147, 3) by decide +kernel) cld_50_62 ⟨9, _, _, rfl, by decide, rfl⟩ wd_287 wd_291 wd_289 wd_299⟩, fun _ h => by cases h⟩⟩⟩⟩⟩), List.forall_mem_cons.mpr ⟨
  s_ret (show decode (cod 50) 57 = .ok (.ireturn, 1) by decide +kernel) rI_ok (fun h => by cases h), fun _ h => by cases h⟩⟩⟩⟩⟩⟩⟩⟩⟩⟩⟩⟩⟩⟩⟩⟩⟩⟩⟩⟩⟩⟩⟩⟩⟩⟩⟩⟩⟩
set_option maxRecDepth 100000 in
theorem si50 (X : CX) (l : Launch) : ∀ q ∈ pt50, SI X l 50 q.1 q.2 :=  si50_0 X l
set_option maxRecDepth 100000 in
set_option maxHeartbeats 4000000 in
theorem si51_0 (X : CX) (l : Launch) : ∀ q ∈ ([(0, iP 1 (fAld 0)), (1, iP 2 (fK (.inl 0))), (2, iW 5 (ptI 41)), (5, iRet rV)] : List (Nat × AS)), SI X l 51 q.1 q.2 := List.forall_mem_cons.mpr ⟨
  s_aload_n (k := 0) (show decode (cod 51) 0 = .ok (.aload_n 0, 1) by decide +kernel), List.forall_mem_cons.mpr ⟨
  s_iconst (show decode (cod 51) 1 = .ok (.iconst 0, 1) by decide +kernel) rfl, List.forall_mem_cons.mpr ⟨
  s_putI (show decode (cod 51) 2 = .ok (.putfield 15, 3) by decide +kernel) wd_34 (Or.inl rfl) (Or.inl rfl) rfl, List.forall_mem_cons.mpr ⟨
  s_ret (show decode (cod 51) 5 = .ok (.return_, 1) by decide +kernel) rV_ok (fun h => by cases h), fun _ h => by cases h⟩⟩⟩⟩
set_option maxRecDepth 100000 in
theorem si51 (X : CX) (l : Launch) : ∀ q ∈ pt51, SI X l 51 q.1 q.2 :=  si51_0 X l
set_option maxRecDepth 100000 in
set_option maxHeartbeats 4000000 in
theorem si52_0 (X : CX) (l : Launch) : ∀ q ∈ ([(0, iP 1 (fAld 1)), (1, iP 3 (fK (.inl 12))), (3, iCK 6 9 53 2 2 0), (6, iP 7 (fAld 0)), (7, iP 8 (fAld 1)), (8, iCK 11 1 54 2 2 1), (11, iP 12 (fAld 0)), (12, iRR 15 (gtR 5)), (15, iC 18 55 6 1 1), (18, iP 19 (f2I (fun x y => x + y))), (19, iRet rI)] : List (Nat × AS)), SI X l 52 q.1 q.2 := List.forall_mem_cons.mpr ⟨
  s_aload_n (k := 1) (show decode (cod 52) 0 = .ok (.aload_n 1, 1) by decide +kernel), List.forall_mem_cons.mpr ⟨
  s_bipush (show decode (cod 52) 1 = .ok (.bipush 12, 2) by decide +kernel) rfl, List.forall_mem_cons.mpr ⟨
  s_invK rfl (rcv_virt (show decode (cod 52) 3 = .ok (.invokevirtual 19, 3) by decide +kernel) cld_52_53 ⟨8, _, _, rfl, by decide, rfl⟩ wd_301 wd_302 wd_303), List.forall_mem_cons.mpr ⟨
  s_aload_n (k := 0) (show decode (cod 52) 6 = .ok (.aload_n 0, 1) by decide +kernel), List.forall_mem_cons.mpr ⟨
  s_aload_n (k := 1) (show decode (cod 52) 7 = .ok (.aload_n 1, 1) by decide +kernel), List.forall_mem_cons.mpr ⟨
  s_invK rfl (rcv_super (C := "StepsAhead$Call") (show decode (cod 52) 8 = .ok (.invokespecial 25, 3) by decide +kernel) cld_52_54 (by decide) ⟨0, _, _, rfl, by decide, rfl⟩ wd_304 wd_279 wd_305 wd_306), List.forall_mem_cons.mpr ⟨
  s_aload_n (k := 0) (show decode (cod 52) 11 = .ok (.aload_n 0, 1) by decide +kernel), List.forall_mem_cons.mpr ⟨
  s_getR (show decode (cod 52) 12 = .ok (.getfield 9, 3) by decide +kernel) wd_210 (Or.inl rfl) rfl, List.forall_mem_cons.mpr ⟨
  s_invSU (cx := "StepsAhead$Call") (show decode (cod 52) 15 = .ok (.invokestatic 29, 3) by decide +kernel) rfl cld_52_55 wd_307 wd_308 wd_310, List.forall_mem_cons.mpr ⟨
  s_iadd (show decode (cod 52) 18 = .ok (.iadd, 1) by decide +kernel), List.forall_mem_cons.mpr ⟨
  s_ret (show decode (cod 52) 19 = .ok (.ireturn, 1) by decide +kernel) rI_ok (fun h => by cases h), fun _ h => by cases h⟩⟩⟩⟩⟩⟩⟩⟩⟩⟩⟩
set_option maxRecDepth 100000 in
theorem si52 (X : CX) (l : Launch) : ∀ q ∈ pt52, SI X l 52 q.1 q.2 :=  si52_0 X l
set_option maxRecDepth 100000 in
set_option maxHeartbeats 4000000 in
theorem si53_0 (X : CX) (l : Launch) : ∀ q ∈ ([(0, iP 1 (fAld 0)), (1, iRI 4 (gtI 41)), (4, iP 5 (fAld 0)), (5, iRR 8 (gtR 40)), (8, iRI 9 qLen), (9, iB 12 32 (b2 (fun x y => decide (y ≤ x)))), (12, iP 13 (fAld 0)), (13, iRR 16 (gtR 40)), (16, iP 17 (fAld 0)), (17, iRI 20 (gtI 41)), (20, iP 21 (fIld 1)), (21, iW 22 wAI), (22, iP 23 (fAld 0)), (23, iP 24 fDup), (24, iRI 27 (gtI 41)), (27, iP 28 (fK (.inl 1))), (28, iP 29 (f2I (fun x y => x + y))), (29, iW 32 (ptI 41)), (32, iRet rV)] : List (Nat × AS)), SI X l 53 q.1 q.2 := List.forall_mem_cons.mpr ⟨
  s_aload_n (k := 0) (show decode (cod 53) 0 = .ok (.aload_n 0, 1) by decide +kernel), List.forall_mem_cons.mpr ⟨
  s_getI (show decode (cod 53) 1 = .ok (.getfield 15, 3) by decide +kernel) wd_34 (Or.inl rfl) (Or.inl rfl), List.forall_mem_cons.mpr ⟨
  s_aload_n (k := 0) (show decode (cod 53) 4 = .ok (.aload_n 0, 1) by decide +kernel), List.forall_mem_cons.mpr ⟨
  s_getR (show decode (cod 53) 5 = .ok (.getfield 9, 3) by decide +kernel) wd_33 (Or.inl rfl) rfl, List.forall_mem_cons.mpr ⟨
  s_alen (show decode (cod 53) 8 = .ok (.arraylength, 1) by decide +kernel), List.forall_mem_cons.mpr ⟨
  s_icmpge (show decode (cod 53) 9 = .ok (.if_icmp .ge 23, 3) by decide +kernel) (by decide), List.forall_mem_cons.mpr ⟨
  s_aload_n (k := 0) (show decode (cod 53) 12 = .ok (.aload_n 0, 1) by decide +kernel), List.forall_mem_cons.mpr ⟨
  s_getR (show decode (cod 53) 13 = .ok (.getfield 9, 3) by decide +kernel) wd_33 (Or.inl rfl) rfl, List.forall_mem_cons.mpr ⟨
  s_aload_n (k := 0) (show decode (cod 53) 16 = .ok (.aload_n 0, 1) by decide +kernel), List.forall_mem_cons.mpr ⟨
  s_getI (show decode (cod 53) 17 = .ok (.getfield 15, 3) by decide +kernel) wd_34 (Or.inl rfl) (Or.inl rfl), List.forall_mem_cons.mpr ⟨
  s_iload_n (k := 1) (show decode (cod 53) 20 = .ok (.iload_n 1, 1) by decide +kernel), List.forall_mem_cons.mpr ⟨
  s_iastore (show decode (cod 53) 21 = .ok (.iastore, 1) by decide +kernel), List.forall_mem_cons.mpr ⟨
  s_aload_n (k := 0) (show decode (cod 53) 22 = .ok (.aload_n 0, 1) by decide +kernel), List.forall_mem_cons.mpr ⟨
  s_dup (show decode (cod 53) 23 = .ok (.dup, 1) by decide +kernel), List.forall_mem_cons.mpr ⟨
  s_getI (show decode (cod 53) 24 = .ok (.getfield 15, 3) by decide +kernel) wd_34 (Or.inl rfl) (Or.inl rfl), List.forall_mem_cons.mpr ⟨
  s_iconst (show decode (cod 53) 27 = .ok (.iconst 1, 1) by decide +kernel) rfl, List.forall_mem_cons.mpr ⟨
  s_iadd (show decode (cod 53) 28 = .ok (.iadd, 1) by decide +kernel), List.forall_mem_cons.mpr ⟨
  s_putI (show decode (cod 53) 29 = .ok (.putfield 15, 3) by decide +kernel) wd_34 (Or.inl rfl) (Or.inl rfl) rfl, List.forall_mem_cons.mpr ⟨
  s_ret (show decode (cod 53) 32 = .ok (.return_, 1) by decide +kernel) rV_ok (fun h => by cases h), fun _ h => by cases h⟩⟩⟩⟩⟩⟩⟩⟩⟩⟩⟩⟩⟩⟩⟩⟩⟩⟩⟩
set_option maxRecDepth 100000 in
theorem si53 (X : CX) (l : Launch) : ∀ q ∈ pt53, SI X l 53 q.1 q.2 :=  si53_0 X l
set_option maxRecDepth 100000 in
set_option maxHeartbeats 4000000 in
theorem si54_0 (X : CX) (l : Launch) : ∀ q ∈ ([(0, iP 1 (fAld 1)), (1, iP 3 (fK (.inl 11))), (3, iCK 6 9 53 2 2 0), (6, iP 7 (fAld 0)), (7, iP 8 (fAld 1)), (8, iCV 11 2 1 [(1, 57, 2), (3, 57, 2)]), (11, iP 12 (fAld 0)), (12, iRR 15 (gtR 0)), (15, iC 18 55 6 1 1), (18, iP 19 (f2I (fun x y => x + y))), (19, iRet rI)] : List (Nat × AS)), SI X l 54 q.1 q.2 := List.forall_mem_cons.mpr ⟨
  s_aload_n (k := 1) (show decode (cod 54) 0 = .ok (.aload_n 1, 1) by decide +kernel), List.forall_mem_cons.mpr ⟨
  s_bipush (show decode (cod 54) 1 = .ok (.bipush 11, 2) by decide +kernel) rfl, List.forall_mem_cons.mpr ⟨
  s_invK rfl (rcv_virt (show decode (cod 54) 3 = .ok (.invokevirtual 19, 3) by decide +kernel) cld_54_53 ⟨8, _, _, rfl, by decide, rfl⟩ wd_311 wd_302 wd_303), List.forall_mem_cons.mpr ⟨
  s_aload_n (k := 0) (show decode (cod 54) 6 = .ok (.aload_n 0, 1) by decide +kernel), List.forall_mem_cons.mpr ⟨
  s_aload_n (k := 1) (show decode (cod 54) 7 = .ok (.aload_n 1, 1) by decide +kernel), List.forall_mem_cons.mpr ⟨
  s_invV (List.forall_mem_cons.mpr ⟨⟨rfl, rcv_super (C := "StepsAhead$Call") (show decode (cod 54) 8 = .ok (.invokespecial 25, 3) by decide +kernel) cld_54_57 (by decide) ⟨0, _, _, rfl, by decide, rfl⟩ wd_312 wd_276 wd_274 wd_262⟩, List.forall_mem_cons.mpr ⟨⟨rfl, rcv_super (C := "StepsAhead$Loop") (show decode (cod 54) 8 = .ok (.invokespecial 25, 3) by decide +kernel) cld_54_57 (by decide) ⟨2, _, _, rfl, by decide, rfl⟩ wd_312 wd_276 wd_274 wd_262⟩, fun _ h => by cases h⟩⟩), List.forall_mem_cons.mpr ⟨
  s_aload_n (k := 0) (show decode (cod 54) 11 = .ok (.aload_n 0, 1) by decide +kernel), List.forall_mem_cons.mpr ⟨
  s_getR (show decode (cod 54) 12 = .ok (.getfield 9, 3) by decide +kernel) wd_202 (Or.inl rfl) rfl, List.forall_mem_cons.mpr ⟨
  s_invS (show decode (cod 54) 15 = .ok (.invokestatic 29, 3) by decide +kernel) rfl cld_54_55 wd_313 wd_310, List.forall_mem_cons.mpr ⟨
  s_iadd (show decode (cod 54) 18 = .ok (.iadd, 1) by decide +kernel), List.forall_mem_cons.mpr ⟨
  s_ret (show decode (cod 54) 19 = .ok (.ireturn, 1) by decide +kernel) rI_ok (fun h => by cases h), fun _ h => by cases h⟩⟩⟩⟩⟩⟩⟩⟩⟩⟩⟩
set_option maxRecDepth 100000 in
theorem si54 (X : CX) (l : Launch) : ∀ q ∈ pt54, SI X l 54 q.1 q.2 :=  si54_0 X l
set_option maxRecDepth 100000 in
set_option maxHeartbeats 4000000 in
theorem si55_0 (X : CX) (l : Launch) : ∀ q ∈ ([(0, iP 1 (fK (.inl 0))), (1, iP 2 (fIst 1)), (2, iP 3 (fAld 0)), (3, iP 4 (fAst 2)), (4, iP 5 (fAld 2)), (5, iRI 6 qLen), (6, iP 7 (fIst 3)), (7, iP 8 (fK (.inl 0))), (8, iP 10 (fIst 4)), (10, iP 12 (fIld 4)), (12, iP 13 (fIld 3)), (13, iB 16 36 (b2 (fun x y => decide (y ≤ x)))), (16, iP 17 (fAld 2)), (17, iP 19 (fIld 4)), (19, iRI 20 qAI), (20, iP 22 (fIst 5)), (22, iP 24 (fIld 5)), (24, iB 27 30 (b1 (fun x => decide (x = 0)))), (27, iP 30 (fInc 1 1)), (30, iP 33 (fInc 4 1)), (33, iP 10 fGo), (36, iP 37 (fIld 1)), (37, iRet rI)] : List (Nat × AS)), SI X l 55 q.1 q.2 := List.forall_mem_cons.mpr ⟨
  s_iconst (show decode (cod 55) 0 = .ok (.iconst 0, 1) by decide +kernel) rfl, List.forall_mem_cons.mpr ⟨
  s_istore_n (k := 1) (show decode (cod 55) 1 = .ok (.istore_n 1, 1) by decide +kernel), List.forall_mem_cons.mpr ⟨
  s_aload_n (k := 0) (show decode (cod 55) 2 = .ok (.aload_n 0, 1) by decide +kernel), List.forall_mem_cons.mpr ⟨
  s_astore_n (k := 2) (show decode (cod 55) 3 = .ok (.astore_n 2, 1) by decide +kernel), List.forall_mem_cons.mpr ⟨
  s_aload_n (k := 2) (show decode (cod 55) 4 = .ok (.aload_n 2, 1) by decide +kernel), List.forall_mem_cons.mpr ⟨
  s_alen (show decode (cod 55) 5 = .ok (.arraylength, 1) by decide +kernel), List.forall_mem_cons.mpr ⟨
  s_istore_n (k := 3) (show decode (cod 55) 6 = .ok (.istore_n 3, 1) by decide +kernel), List.forall_mem_cons.mpr ⟨
  s_iconst (show decode (cod 55) 7 = .ok (.iconst 0, 1) by decide +kernel) rfl, List.forall_mem_cons.mpr ⟨
  s_istore (k := 4) (show decode (cod 55) 8 = .ok (.istore 4, 2) by decide +kernel), List.forall_mem_cons.mpr ⟨
  s_iload (k := 4) (show decode (cod 55) 10 = .ok (.iload 4, 2) by decide +kernel), List.forall_mem_cons.mpr ⟨
  s_iload_n (k := 3) (show decode (cod 55) 12 = .ok (.iload_n 3, 1) by decide +kernel), List.forall_mem_cons.mpr ⟨
  s_icmpge (show decode (cod 55) 13 = .ok (.if_icmp .ge 23, 3) by decide +kernel) (by decide), List.forall_mem_cons.mpr ⟨
  s_aload_n (k := 2) (show decode (cod 55) 16 = .ok (.aload_n 2, 1) by decide +kernel), List.forall_mem_cons.mpr ⟨
  s_iload (k := 4) (show decode (cod 55) 17 = .ok (.iload 4, 2) by decide +kernel), List.forall_mem_cons.mpr ⟨
  s_iaload (show decode (cod 55) 19 = .ok (.iaload, 1) by decide +kernel), List.forall_mem_cons.mpr ⟨
  s_istore (k := 5) (show decode (cod 55) 20 = .ok (.istore 5, 2) by decide +kernel), List.forall_mem_cons.mpr ⟨
  s_iload (k := 5) (show decode (cod 55) 22 = .ok (.iload 5, 2) by decide +kernel), List.forall_mem_cons.mpr ⟨
  s_ifeq (show decode (cod 55) 24 = .ok (.ifCond .eq 6, 3) by decide +kernel) (by decide), List.forall_mem_cons.mpr ⟨
  s_iinc (show decode (cod 55) 27 = .ok (.iinc 1 1, 3) by decide +kernel) rfl, List.forall_mem_cons.mpr ⟨
  s_iinc (show decode (cod 55) 30 = .ok (.iinc 4 1, 3) by decide +kernel) rfl, List.forall_mem_cons.mpr ⟨
  s_goto (show decode (cod 55) 33 = .ok (.goto (-23), 3) by decide +kernel) (by decide), List.forall_mem_cons.mpr ⟨
  s_iload_n (k := 1) (show decode (cod 55) 36 = .ok (.iload_n 1, 1) by decide +kernel), List.forall_mem_cons.mpr ⟨
  s_ret (show decode (cod 55) 37 = .ok (.ireturn, 1) by decide +kernel) rI_ok (fun h => by cases h), fun _ h => by cases h⟩⟩⟩⟩⟩⟩⟩⟩⟩⟩⟩⟩⟩⟩⟩⟩⟩⟩⟩⟩⟩⟩⟩
set_option maxRecDepth 100000 in
theorem si55 (X : CX) (l : Launch) : ∀ q ∈ pt55, SI X l 55 q.1 q.2 :=  si55_0 X l
set_option maxRecDepth 100000 in
set_option maxHeartbeats 4000000 in
theorem si56_0 (X : CX) (l : Launch) : ∀ q ∈ ([(0, iP 1 (fAld 1)), (1, iP 3 (fK (.inl 13))), (3, iCK 6 9 53 2 2 0), (6, iP 7 (fAld 0)), (7, iRI 10 (gtI 42)), (10, iRet rI)] : List (Nat × AS)), SI X l 56 q.1 q.2 := List.forall_mem_cons.mpr ⟨
  s_aload_n (k := 1) (show decode (cod 56) 0 = .ok (.aload_n 1, 1) by decide +kernel), List.forall_mem_cons.mpr ⟨
  s_bipush (show decode (cod 56) 1 = .ok (.bipush 13, 2) by decide +kernel) rfl, List.forall_mem_cons.mpr ⟨
  s_invK rfl (rcv_virt (show decode (cod 56) 3 = .ok (.invokevirtual 15, 3) by decide +kernel) cld_56_53 ⟨8, _, _, rfl, by decide, rfl⟩ wd_314 wd_302 wd_303), List.forall_mem_cons.mpr ⟨
  s_aload_n (k := 0) (show decode (cod 56) 6 = .ok (.aload_n 0, 1) by decide +kernel), List.forall_mem_cons.mpr ⟨
  s_getI (show decode (cod 56) 7 = .ok (.getfield 9, 3) by decide +kernel) wd_133 (Or.inl rfl) (Or.inl rfl), List.forall_mem_cons.mpr ⟨
  s_ret (show decode (cod 56) 10 = .ok (.ireturn, 1) by decide +kernel) rI_ok (fun h => by cases h), fun _ h => by cases h⟩⟩⟩⟩⟩⟩
set_option maxRecDepth 100000 in
theorem si56 (X : CX) (l : Launch) : ∀ q ∈ pt56, SI X l 56 q.1 q.2 :=  si56_0 X l
set_option maxRecDepth 100000 in
set_option maxHeartbeats 4000000 in
theorem si57_0 (X : CX) (l : Launch) : ∀ q ∈ ([(0, iP 1 (fAld 1)), (1, iP 3 (fK (.inl 10))), (3, iCK 6 9 53 2 2 0), (6, iP 7 (fK (.inl 1))), (7, iRet rI)] : List (Nat × AS)), SI X l 57 q.1 q.2 := List.forall_mem_cons.mpr ⟨
  s_aload_n (k := 1) (show decode (cod 57) 0 = .ok (.aload_n 1, 1) by decide +kernel), List.forall_mem_cons.mpr ⟨
  s_bipush (show decode (cod 57) 1 = .ok (.bipush 10, 2) by decide +kernel) rfl, List.forall_mem_cons.mpr ⟨
  s_invK rfl (rcv_virt (show decode (cod 57) 3 = .ok (.invokevirtual 24, 3) by decide +kernel) cld_57_53 ⟨8, _, _, rfl, by decide, rfl⟩ wd_315 wd_302 wd_303), List.forall_mem_cons.mpr ⟨
  s_iconst (show decode (cod 57) 6 = .ok (.iconst 1, 1) by decide +kernel) rfl, List.forall_mem_cons.mpr ⟨
  s_ret (show decode (cod 57) 7 = .ok (.ireturn, 1) by decide +kernel) rI_ok (fun h => by cases h), fun _ h => by cases h⟩⟩⟩⟩⟩
set_option maxRecDepth 100000 in
theorem si57 (X : CX) (l : Launch) : ∀ q ∈ pt57, SI X l 57 q.1 q.2 :=  si57_0 X l
set_option maxRecDepth 100000 in
set_option maxHeartbeats 4000000 in
theorem si58_0 (X : CX) (l : Launch) : ∀ q ∈ ([(0, iP 1 (fAld 1)), (1, iP 3 (fK (.inl 23))), (3, iCK 6 9 53 2 2 0), (6, iP 7 (fAld 0)), (7, iRR 10 (gtR 6)), (10, iRI 13 (gtI 21)), (13, iRet rI)] : List (Nat × AS)), SI X l 58 q.1 q.2 := List.forall_mem_cons.mpr ⟨
  s_aload_n (k := 1) (show decode (cod 58) 0 = .ok (.aload_n 1, 1) by decide +kernel), List.forall_mem_cons.mpr ⟨
  s_bipush (show decode (cod 58) 1 = .ok (.bipush 23, 2) by decide +kernel) rfl, List.forall_mem_cons.mpr ⟨
  s_invK rfl (rcv_virt (show decode (cod 58) 3 = .ok (.invokevirtual 19, 3) by decide +kernel) cld_58_53 ⟨8, _, _, rfl, by decide, rfl⟩ wd_301 wd_302 wd_303), List.forall_mem_cons.mpr ⟨
  s_aload_n (k := 0) (show decode (cod 58) 6 = .ok (.aload_n 0, 1) by decide +kernel), List.forall_mem_cons.mpr ⟨
  s_getR (show decode (cod 58) 7 = .ok (.getfield 15, 3) by decide +kernel) wd_211 (Or.inl rfl) rfl, List.forall_mem_cons.mpr ⟨
  s_getI (show decode (cod 58) 10 = .ok (.getfield 33, 3) by decide +kernel) wd_316 (Or.inl rfl) (Or.inl rfl), List.forall_mem_cons.mpr ⟨
  s_ret (show decode (cod 58) 13 = .ok (.ireturn, 1) by decide +kernel) rI_ok (fun h => by cases h), fun _ h => by cases h⟩⟩⟩⟩⟩⟩⟩
set_option maxRecDepth 100000 in
theorem si58 (X : CX) (l : Launch) : ∀ q ∈ pt58, SI X l 58 q.1 q.2 :=  si58_0 X l
set_option maxRecDepth 100000 in
set_option maxHeartbeats 4000000 in
theorem si59_0 (X : CX) (l : Launch) : ∀ q ∈ ([(0, iP 1 (fAld 1)), (1, iP 3 (fK (.inl 24))), (3, iCK 6 9 53 2 2 0), (6, iP 7 (fK (.inl 2))), (7, iP 8 (fAld 0)), (8, iP 9 (fAld 1)), (9, iCK 12 2 62 2 2 1), (12, iP 13 (f2I (fun x y => x * y))), (13, iRet rI)] : List (Nat × AS)), SI X l 59 q.1 q.2 := List.forall_mem_cons.mpr ⟨
  s_aload_n (k := 1) (show decode (cod 59) 0 = .ok (.aload_n 1, 1) by decide +kernel), List.forall_mem_cons.mpr ⟨
  s_bipush (show decode (cod 59) 1 = .ok (.bipush 24, 2) by decide +kernel) rfl, List.forall_mem_cons.mpr ⟨
  s_invK rfl (rcv_virt (show decode (cod 59) 3 = .ok (.invokevirtual 24, 3) by decide +kernel) cld_59_53 ⟨8, _, _, rfl, by decide, rfl⟩ wd_317 wd_302 wd_303), List.forall_mem_cons.mpr ⟨
  s_iconst (show decode (cod 59) 6 = .ok (.iconst 2, 1) by decide +kernel) rfl, List.forall_mem_cons.mpr ⟨
  s_aload_n (k := 0) (show decode (cod 59) 7 = .ok (.aload_n 0, 1) by decide +kernel), List.forall_mem_cons.mpr ⟨
  s_aload_n (k := 1) (show decode (cod 59) 8 = .ok (.aload_n 1, 1) by decide +kernel), List.forall_mem_cons.mpr ⟨
  s_invK rfl (rcv_super (C := "StepsAhead$Either") (show decode (cod 59) 9 = .ok (.invokespecial 30, 3) by decide +kernel) cld_59_62 (by decide) ⟨1, _, _, rfl, by decide, rfl⟩ wd_318 wd_291 wd_289 wd_319), List.forall_mem_cons.mpr ⟨
  s_imul (show decode (cod 59) 12 = .ok (.imul, 1) by decide +kernel), List.forall_mem_cons.mpr ⟨
  s_ret (show decode (cod 59) 13 = .ok (.ireturn, 1) by decide +kernel) rI_ok (fun h => by cases h), fun _ h => by cases h⟩⟩⟩⟩⟩⟩⟩⟩⟩
set_option maxRecDepth 100000 in
theorem si59 (X : CX) (l : Launch) : ∀ q ∈ pt59, SI X l 59 q.1 q.2 :=  si59_0 X l
set_option maxRecDepth 100000 in
set_option maxHeartbeats 4000000 in
theorem si60_0 (X : CX) (l : Launch) : ∀ q ∈ ([(0, iP 1 (fAld 1)), (1, iP 3 (fK (.inl 22))), (3, iCK 6 9 53 2 2 0), (6, iP 7 (fAld 0)), (7, iP 8 (fAld 1)), (8, iCK 11 3 61 2 2 1), (11, iP 12 (fAld 0)), (12, iRI 15 (gtI 3)), (15, iP 16 (f2I (fun x y => x + y))), (16, iP 17 (fK (.inl 1))), (17, iP 18 (f2I (fun x y => x + y))), (18, iRet rI)] : List (Nat × AS)), SI X l 60 q.1 q.2 := List.forall_mem_cons.mpr ⟨
  s_aload_n (k := 1) (show decode (cod 60) 0 = .ok (.aload_n 1, 1) by decide +kernel), List.forall_mem_cons.mpr ⟨
  s_bipush (show decode (cod 60) 1 = .ok (.bipush 22, 2) by decide +kernel) rfl, List.forall_mem_cons.mpr ⟨
  s_invK rfl (rcv_virt (show decode (cod 60) 3 = .ok (.invokevirtual 22, 3) by decide +kernel) cld_60_53 ⟨8, _, _, rfl, by decide, rfl⟩ wd_320 wd_302 wd_303), List.forall_mem_cons.mpr ⟨
  s_aload_n (k := 0) (show decode (cod 60) 6 = .ok (.aload_n 0, 1) by decide +kernel), List.forall_mem_cons.mpr ⟨
  s_aload_n (k := 1) (show decode (cod 60) 7 = .ok (.aload_n 1, 1) by decide +kernel), List.forall_mem_cons.mpr ⟨
  s_invK rfl (rcv_super (C := "StepsAhead$Loop") (show decode (cod 60) 8 = .ok (.invokespecial 28, 3) by decide +kernel) cld_60_61 (by decide) ⟨2, _, _, rfl, by decide, rfl⟩ wd_322 wd_323 wd_324 wd_325), List.forall_mem_cons.mpr ⟨
  s_aload_n (k := 0) (show decode (cod 60) 11 = .ok (.aload_n 0, 1) by decide +kernel), List.forall_mem_cons.mpr ⟨
  s_getI (show decode (cod 60) 12 = .ok (.getfield 15, 3) by decide +kernel) wd_326 (Or.inr wd_327) (Or.inl rfl), List.forall_mem_cons.mpr ⟨
  s_iadd (show decode (cod 60) 15 = .ok (.iadd, 1) by decide +kernel), List.forall_mem_cons.mpr ⟨
  s_iconst (show decode (cod 60) 16 = .ok (.iconst 1, 1) by decide +kernel) rfl, List.forall_mem_cons.mpr ⟨
  s_iadd (show decode (cod 60) 17 = .ok (.iadd, 1) by decide +kernel), List.forall_mem_cons.mpr ⟨
  s_ret (show decode (cod 60) 18 = .ok (.ireturn, 1) by decide +kernel) rI_ok (fun h => by cases h), fun _ h => by cases h⟩⟩⟩⟩⟩⟩⟩⟩⟩⟩⟩⟩
set_option maxRecDepth 100000 in
theorem si60 (X : CX) (l : Launch) : ∀ q ∈ pt60, SI X l 60 q.1 q.2 :=  si60_0 X l
set_option maxRecDepth 100000 in
set_option maxHeartbeats 4000000 in
theorem si61_0 (X : CX) (l : Launch) : ∀ q ∈ ([(0, iP 1 (fAld 1)), (1, iP 3 (fK (.inl 21))), (3, iCK 6 9 53 2 2 0), (6, iP 7 (fAld 0)), (7, iP 8 (fAld 1)), (8, iCV 11 2 1 [(1, 62, 2), (3, 62, 2)]), (11, iP 12 (fAld 0)), (12, iP 13 (fAld 1)), (13, iCV 16 2 1 [(1, 52, 2), (3, 54, 2)]), (16, iP 17 (f2I (fun x y => x + y))), (17, iRet rI)] : List (Nat × AS)), SI X l 61 q.1 q.2 := List.forall_mem_cons.mpr ⟨
  s_aload_n (k := 1) (show decode (cod 61) 0 = .ok (.aload_n 1, 1) by decide +kernel), List.forall_mem_cons.mpr ⟨
  s_bipush (show decode (cod 61) 1 = .ok (.bipush 21, 2) by decide +kernel) rfl, List.forall_mem_cons.mpr ⟨
  s_invK rfl (rcv_virt (show decode (cod 61) 3 = .ok (.invokevirtual 19, 3) by decide +kernel) cld_61_53 ⟨8, _, _, rfl, by decide, rfl⟩ wd_311 wd_302 wd_303), List.forall_mem_cons.mpr ⟨
  s_aload_n (k := 0) (show decode (cod 61) 6 = .ok (.aload_n 0, 1) by decide +kernel), List.forall_mem_cons.mpr ⟨
  s_aload_n (k := 1) (show decode (cod 61) 7 = .ok (.aload_n 1, 1) by decide +kernel), List.forall_mem_cons.mpr ⟨
  s_invV (List.forall_mem_cons.mpr ⟨⟨rfl, rcv_super (C := "StepsAhead$Call") (show decode (cod 61) 8 = .ok (.invokespecial 33, 3) by decide +kernel) cld_61_62 (by decide) ⟨0, _, _, rfl, by decide, rfl⟩ wd_328 wd_291 wd_289 wd_262⟩, List.forall_mem_cons.mpr ⟨⟨rfl, rcv_super (C := "StepsAhead$Loop") (show decode (cod 61) 8 = .ok (.invokespecial 33, 3) by decide +kernel) cld_61_62 (by decide) ⟨2, _, _, rfl, by decide, rfl⟩ wd_328 wd_291 wd_289 wd_262⟩, fun _ h => by cases h⟩⟩), List.forall_mem_cons.mpr ⟨
  s_aload_n (k := 0) (show decode (cod 61) 11 = .ok (.aload_n 0, 1) by decide +kernel), List.forall_mem_cons.mpr ⟨
  s_aload_n (k := 1) (show decode (cod 61) 12 = .ok (.aload_n 1, 1) by decide +kernel), List.forall_mem_cons.mpr ⟨
  s_invV (List.forall_mem_cons.mpr ⟨⟨rfl, rcv_O (mx0 := 54) (C := "StepsAhead$Call") (show decode (cod 61) 13 = .ok (.invokevirtual 36, 3) by decide +kernel) cld_61_52 ⟨0, _, _, rfl, by decide, rfl⟩ ⟨rfl, rfl, by decide, by decide⟩ wd_278 wd_329 wd_273 wd_305 wd_330 wd_279⟩, List.forall_mem_cons.mpr ⟨⟨rfl, rcv_U (C := "StepsAhead$Loop") (show decode (cod 61) 13 = .ok (.invokevirtual 36, 3) by decide +kernel) cld_61_54 ⟨2, _, _, rfl, by decide, rfl⟩ wd_329 wd_279 wd_305 wd_331⟩, fun _ h => by cases h⟩⟩), List.forall_mem_cons.mpr ⟨
  s_iadd (show decode (cod 61) 16 = .ok (.iadd, 1) by decide +kernel), List.forall_mem_cons.mpr ⟨
  s_ret (show decode (cod 61) 17 = .ok (.ireturn, 1) by decide +kernel) rI_ok (fun h => by cases h), fun _ h => by cases h⟩⟩⟩⟩⟩⟩⟩⟩⟩⟩⟩
set_option maxRecDepth 100000 in
theorem si61 (X : CX) (l : Launch) : ∀ q ∈ pt61, SI X l 61 q.1 q.2 :=  si61_0 X l
set_option maxRecDepth 100000 in
set_option maxHeartbeats 4000000 in
theorem si62_0 (X : CX) (l : Launch) : ∀ q ∈ ([(0, iP 1 (fAld 1)), (1, iP 3 (fK (.inl 20))), (3, iCK 6 9 53 2 2 0), (6, iP 7 (fAld 0)), (7, iRI 10 (gtI 2)), (10, iRet rI)] : List (Nat × AS)), SI X l 62 q.1 q.2 := List.forall_mem_cons.mpr ⟨
  s_aload_n (k := 1) (show decode (cod 62) 0 = .ok (.aload_n 1, 1) by decide +kernel), List.forall_mem_cons.mpr ⟨
  s_bipush (show decode (cod 62) 1 = .ok (.bipush 20, 2) by decide +kernel) rfl, List.forall_mem_cons.mpr ⟨
  s_invK rfl (rcv_virt (show decode (cod 62) 3 = .ok (.invokevirtual 24, 3) by decide +kernel) cld_62_53 ⟨8, _, _, rfl, by decide, rfl⟩ wd_315 wd_302 wd_303), List.forall_mem_cons.mpr ⟨
  s_aload_n (k := 0) (show decode (cod 62) 6 = .ok (.aload_n 0, 1) by decide +kernel), List.forall_mem_cons.mpr ⟨
  s_getI (show decode (cod 62) 7 = .ok (.getfield 15, 3) by decide +kernel) wd_136 (Or.inl rfl) (Or.inl rfl), List.forall_mem_cons.mpr ⟨
  s_ret (show decode (cod 62) 10 = .ok (.ireturn, 1) by decide +kernel) rI_ok (fun h => by cases h), fun _ h => by cases h⟩⟩⟩⟩⟩⟩
set_option maxRecDepth 100000 in
theorem si62 (X : CX) (l : Launch) : ∀ q ∈ pt62, SI X l 62 q.1 q.2 :=  si62_0 X l
set_option maxRecDepth 100000 in
set_option maxHeartbeats 4000000 in
theorem si63_0 (X : CX) (l : Launch) : ∀ q ∈ ([(0, iP 1 (fAld 0)), (1, iRR 4 (gtR 47)), (4, iP 5 (fIld 1)), (5, iCK 8 9 64 2 2 1), (8, iRet rI)] : List (Nat × AS)), SI X l 63 q.1 q.2 := List.forall_mem_cons.mpr ⟨
  s_aload_n (k := 0) (show decode (cod 63) 0 = .ok (.aload_n 0, 1) by decide +kernel), List.forall_mem_cons.mpr ⟨
  s_getR (show decode (cod 63) 1 = .ok (.getfield 29, 3) by decide +kernel) wd_14 (Or.inl rfl) rfl, List.forall_mem_cons.mpr ⟨
  s_iload_n (k := 1) (show decode (cod 63) 4 = .ok (.iload_n 1, 1) by decide +kernel), List.forall_mem_cons.mpr ⟨
  s_invK rfl (rcv_virt (show decode (cod 63) 5 = .ok (.invokevirtual 150, 3) by decide +kernel) cld_63_64 ⟨8, _, _, rfl, by decide, rfl⟩ wd_333 wd_334 wd_335), List.forall_mem_cons.mpr ⟨
  s_ret (show decode (cod 63) 8 = .ok (.ireturn, 1) by decide +kernel) rI_ok (fun h => by cases h), fun _ h => by cases h⟩⟩⟩⟩⟩
set_option maxRecDepth 100000 in
theorem si63 (X : CX) (l : Launch) : ∀ q ∈ pt63, SI X l 63 q.1 q.2 :=  si63_0 X l
set_option maxRecDepth 100000 in
set_option maxHeartbeats 4000000 in
theorem si64_0 (X : CX) (l : Launch) : ∀ q ∈ ([(0, iP 1 (fIld 1)), (1, iB 4 21 (b1 (fun x => decide (x < 0)))), (4, iP 5 (fIld 1)), (5, iP 6 (fAld 0)), (6, iRI 9 (gtI 41)), (9, iB 12 21 (b2 (fun x y => decide (y ≤ x)))), (12, iP 13 (fIld 1)), (13, iP 14 (fAld 0)), (14, iRR 17 (gtR 40)), (17, iRI 18 qLen), (18, iB 21 26 (b2 (fun x y => decide (x < y)))), (21, iP 23 (fK (.inl (-1000000)))), (23, iP 32 fGo), (26, iP 27 (fAld 0)), (27, iRR 30 (gtR 40)), (30, iP 31 (fIld 1)), (31, iRI 32 qAI), (32, iRet rI)] : List (Nat × AS)), SI X l 64 q.1 q.2 := List.forall_mem_cons.mpr ⟨
  s_iload_n (k := 1) (show decode (cod 64) 0 = .ok (.iload_n 1, 1) by decide +kernel), List.forall_mem_cons.mpr ⟨
  s_iflt (show decode (cod 64) 1 = .ok (.ifCond .lt 20, 3) by decide +kernel) (by decide), List.forall_mem_cons.mpr ⟨
  s_iload_n (k := 1) (show decode (cod 64) 4 = .ok (.iload_n 1, 1) by decide +kernel), List.forall_mem_cons.mpr ⟨
  s_aload_n (k := 0) (show decode (cod 64) 5 = .ok (.aload_n 0, 1) by decide +kernel), List.forall_mem_cons.mpr ⟨
  s_getI (show decode (cod 64) 6 = .ok (.getfield 15, 3) by decide +kernel) wd_34 (Or.inl rfl) (Or.inl rfl), List.forall_mem_cons.mpr ⟨
  s_icmpge (show decode (cod 64) 9 = .ok (.if_icmp .ge 12, 3) by decide +kernel) (by decide), List.forall_mem_cons.mpr ⟨
  s_iload_n (k := 1) (show decode (cod 64) 12 = .ok (.iload_n 1, 1) by decide +kernel), List.forall_mem_cons.mpr ⟨
  s_aload_n (k := 0) (show decode (cod 64) 13 = .ok (.aload_n 0, 1) by decide +kernel), List.forall_mem_cons.mpr ⟨
  s_getR (show decode (cod 64) 14 = .ok (.getfield 9, 3) by decide +kernel) wd_33 (Or.inl rfl) rfl, List.forall_mem_cons.mpr ⟨
  s_alen (show decode (cod 64) 17 = .ok (.arraylength, 1) by decide +kernel), List.forall_mem_cons.mpr ⟨
  s_icmplt (show decode (cod 64) 18 = .ok (.if_icmp .lt 8, 3) by decide +kernel) (by decide), List.forall_mem_cons.mpr ⟨
  s_ldc (show decode (cod 64) 21 = .ok (.ldc 19, 2) by decide +kernel) wd_336, List.forall_mem_cons.mpr ⟨
  s_goto (show decode (cod 64) 23 = .ok (.goto 9, 3) by decide +kernel) (by decide), List.forall_mem_cons.mpr ⟨
  s_aload_n (k := 0) (show decode (cod 64) 26 = .ok (.aload_n 0, 1) by decide +kernel), List.forall_mem_cons.mpr ⟨
  s_getR (show decode (cod 64) 27 = .ok (.getfield 9, 3) by decide +kernel) wd_33 (Or.inl rfl) rfl, List.forall_mem_cons.mpr ⟨
  s_iload_n (k := 1) (show decode (cod 64) 30 = .ok (.iload_n 1, 1) by decide +kernel), List.forall_mem_cons.mpr ⟨
  s_iaload (show decode (cod 64) 31 = .ok (.iaload, 1) by decide +kernel), List.forall_mem_cons.mpr ⟨
  s_ret (show decode (cod 64) 32 = .ok (.ireturn, 1) by decide +kernel) rI_ok (fun h => by cases h), fun _ h => by cases h⟩⟩⟩⟩⟩⟩⟩⟩⟩⟩⟩⟩⟩⟩⟩⟩⟩⟩
set_option maxRecDepth 100000 in
theorem si64 (X : CX) (l : Launch) : ∀ q ∈ pt64, SI X l 64 q.1 q.2 :=  si64_0 X l
set_option maxRecDepth 100000 in
set_option maxHeartbeats 4000000 in
theorem si65_0 (X : CX) (l : Launch) : ∀ q ∈ ([(0, iP 1 (fAld 0)), (1, iP 2 (fIld 1)), (2, iCK 5 11 15 2 2 3), (5, iP 6 (fAst 3)), (6, iP 7 (fAld 3)), (7, iB 10 17 bN), (10, iP 11 (fIld 2)), (11, iC 14 66 1 1 1), (14, iB 17 20 (b1 (fun x => decide (x ≠ 0)))), (17, iP 19 (fK (.inl (-1000001)))), (19, iRet rI), (20, iP 21 (fAld 0)), (21, iP 22 (fAld 3)), (22, iP 23 (fIld 2)), (23, iCK 26 11 67 6 3 1), (26, iP 28 (fIst 4)), (28, iP 30 (fIld 4)), (30, iB 33 38 (b1 (fun x => decide (0 ≤ x)))), (33, iP 35 (fIld 4)), (35, iP 43 fGo), (38, iP 39 (fAld 3)), (39, iP 40 (fIld 2)), (40, iCK 43 7 96 8 2 1), (43, iRet rI)] : List (Nat × AS)), SI X l 65 q.1 q.2 := List.forall_mem_cons.mpr ⟨
  s_aload_n (k := 0) (show decode (cod 65) 0 = .ok (.aload_n 0, 1) by decide +kernel), List.forall_mem_cons.mpr ⟨
  s_iload_n (k := 1) (show decode (cod 65) 1 = .ok (.iload_n 1, 1) by decide +kernel), List.forall_mem_cons.mpr ⟨
  s_invK rfl (rcv_virt (show decode (cod 65) 2 = .ok (.invokevirtual 56, 3) by decide +kernel) cld_65_15 ⟨10, _, _, rfl, by decide, rfl⟩ wd_102 wd_103 wd_104), List.forall_mem_cons.mpr ⟨
  s_astore_n (k := 3) (show decode (cod 65) 5 = .ok (.astore_n 3, 1) by decide +kernel), List.forall_mem_cons.mpr ⟨
  s_aload_n (k := 3) (show decode (cod 65) 6 = .ok (.aload_n 3, 1) by decide +kernel), List.forall_mem_cons.mpr ⟨
  s_ifnull (show decode (cod 65) 7 = .ok (.ifnull 10, 3) by decide +kernel) (by decide), List.forall_mem_cons.mpr ⟨
  s_iload_n (k := 2) (show decode (cod 65) 10 = .ok (.iload_n 2, 1) by decide +kernel), List.forall_mem_cons.mpr ⟨
  s_invS (show decode (cod 65) 11 = .ok (.invokestatic 154, 3) by decide +kernel) rfl cld_65_66 wd_338 wd_339, List.forall_mem_cons.mpr ⟨
  s_ifne (show decode (cod 65) 14 = .ok (.ifCond .ne 6, 3) by decide +kernel) (by decide), List.forall_mem_cons.mpr ⟨
  s_ldc (show decode (cod 65) 17 = .ok (.ldc 55, 2) by decide +kernel) wd_100, List.forall_mem_cons.mpr ⟨
  s_ret (show decode (cod 65) 19 = .ok (.ireturn, 1) by decide +kernel) rI_ok (fun h => by cases h), List.forall_mem_cons.mpr ⟨
  s_aload_n (k := 0) (show decode (cod 65) 20 = .ok (.aload_n 0, 1) by decide +kernel), List.forall_mem_cons.mpr ⟨
  s_aload_n (k := 3) (show decode (cod 65) 21 = .ok (.aload_n 3, 1) by decide +kernel), List.forall_mem_cons.mpr ⟨
  s_iload_n (k := 2) (show decode (cod 65) 22 = .ok (.iload_n 2, 1) by decide +kernel), List.forall_mem_cons.mpr ⟨
  s_invK rfl (rcv_virt (show decode (cod 65) 23 = .ok (.invokevirtual 157, 3) by decide +kernel) cld_65_67 ⟨10, _, _, rfl, by decide, rfl⟩ wd_341 wd_342 wd_343), List.forall_mem_cons.mpr ⟨
  s_istore (k := 4) (show decode (cod 65) 26 = .ok (.istore 4, 2) by decide +kernel), List.forall_mem_cons.mpr ⟨
  s_iload (k := 4) (show decode (cod 65) 28 = .ok (.iload 4, 2) by decide +kernel), List.forall_mem_cons.mpr ⟨
  s_ifge (show decode (cod 65) 30 = .ok (.ifCond .ge 8, 3) by decide +kernel) (by decide), List.forall_mem_cons.mpr ⟨
  s_iload (k := 4) (show decode (cod 65) 33 = .ok (.iload 4, 2) by decide +kernel), List.forall_mem_cons.mpr ⟨
  s_goto (show decode (cod 65) 35 = .ok (.goto 8, 3) by decide +kernel) (by decide), List.forall_mem_cons.mpr ⟨
  s_aload_n (k := 3) (show decode (cod 65) 38 = .ok (.aload_n 3, 1) by decide +kernel), List.forall_mem_cons.mpr ⟨
  s_iload_n (k := 2) (show decode (cod 65) 39 = .ok (.iload_n 2, 1) by decide +kernel), List.forall_mem_cons.mpr ⟨
  s_invK rfl (rcv_virt (show decode (cod 65) 40 = .ok (.invokevirtual 161, 3) by decide +kernel) cld_65_96 ⟨6, _, _, rfl, by decide, rfl⟩ wd_345 wd_346 wd_347), List.forall_mem_cons.mpr ⟨
  s_ret (show decode (cod 65) 43 = .ok (.ireturn, 1) by decide +kernel) rI_ok (fun h => by cases h), fun _ h => by cases h⟩⟩⟩⟩⟩⟩⟩⟩⟩⟩⟩⟩⟩⟩⟩⟩⟩⟩⟩⟩⟩⟩⟩⟩
set_option maxRecDepth 100000 in
theorem si65 (X : CX) (l : Launch) : ∀ q ∈ pt65, SI X l 65 q.1 q.2 :=  si65_0 X l
set_option maxRecDepth 100000 in
set_option maxHeartbeats 4000000 in
theorem si66_0 (X : CX) (l : Launch) : ∀ q ∈ ([(0, iP 1 (fIld 0)), (1, iB 4 9 (b1 (fun x => decide (x = 0)))), (4, iP 5 (fIld 0)), (5, iP 6 (fK (.inl 1))), (6, iB 9 13 (b2 (fun x y => decide (x ≠ y)))), (9, iP 10 (fK (.inl 1))), (10, iP 14 fGo), (13, iP 14 (fK (.inl 0))), (14, iRet rZ)] : List (Nat × AS)), SI X l 66 q.1 q.2 := List.forall_mem_cons.mpr ⟨
  s_iload_n (k := 0) (show decode (cod 66) 0 = .ok (.iload_n 0, 1) by decide +kernel), List.forall_mem_cons.mpr ⟨
  s_ifeq (show decode (cod 66) 1 = .ok (.ifCond .eq 8, 3) by decide +kernel) (by decide), List.forall_mem_cons.mpr ⟨
  s_iload_n (k := 0) (show decode (cod 66) 4 = .ok (.iload_n 0, 1) by decide +kernel), List.forall_mem_cons.mpr ⟨
  s_iconst (show decode (cod 66) 5 = .ok (.iconst 1, 1) by decide +kernel) rfl, List.forall_mem_cons.mpr ⟨
  s_icmpne (show decode (cod 66) 6 = .ok (.if_icmp .ne 7, 3) by decide +kernel) (by decide), List.forall_mem_cons.mpr ⟨
  s_iconst (show decode (cod 66) 9 = .ok (.iconst 1, 1) by decide +kernel) rfl, List.forall_mem_cons.mpr ⟨
  s_goto (show decode (cod 66) 10 = .ok (.goto 4, 3) by decide +kernel) (by decide), List.forall_mem_cons.mpr ⟨
  s_iconst (show decode (cod 66) 13 = .ok (.iconst 0, 1) by decide +kernel) rfl, List.forall_mem_cons.mpr ⟨
  s_ret (show decode (cod 66) 14 = .ok (.ireturn, 1) by decide +kernel) rZ_ok (fun _ => rZ_b), fun _ h => by cases h⟩⟩⟩⟩⟩⟩⟩⟩⟩
set_option maxRecDepth 100000 in
theorem si66 (X : CX) (l : Launch) : ∀ q ∈ pt66, SI X l 66 q.1 q.2 :=  si66_0 X l
set_option maxRecDepth 100000 in
set_option maxHeartbeats 4000000 in
theorem si67_0 (X : CX) (l : Launch) : ∀ q ∈ ([(0, iP 1 (fAld 0)), (1, iP 2 (fAld 1)), (2, iCK 5 11 68 4 2 1), (5, iP 6 (fIst 3)), (6, iP 7 (fAld 0)), (7, iP 8 (fIld 3)), (8, iCK 11 11 69 3 2 1), (11, iB 14 17 (b1 (fun x => decide (x ≠ 0)))), (14, iP 16 (fK (.inl (-1000002)))), (16, iRet rI), (17, iP 18 (fK (.inl 0))), (18, iP 20 (fIst 4)), (20, iP 22 (fIld 4)), (22, iP 23 (fAld 1)), (23, iRI 26 (gtI 21)), (26, iB 29 73 (b2 (fun x y => decide (y < x)))), (29, iP 30 (fAld 0)), (30, iRR 33 (gtR 43)), (33, iP 35 (fIld 4)), (35, iRR 36 qAR), (36, iP 38 (fAst 5)), (38, iP 39 (fIld 3)), (39, iP 41 (fIld 4)), (41, iP 42 (f2I (fun x y => x >>> (y &&& 31)))), (42, iP 43 (fK (.inl 1))), (43, iP 44 (f2I (fun x y => x &&& y))), (44, iB 47 67 (b1 (fun x => decide (x = 0)))), (47, iP 49 (fAld 5)), (49, iRR 52 (gtR 28)), (52, iP 53 (fIld 2)), (53, iRI 54 qAI), (54, iB 57 67 (b1 (fun x => decide (x ≠ 0)))), (57, iP 58 (fAld 0)), (58, iRR 61 (gtR 48)), (61, iP 63 (fAld 5)), (63, iP 64 (fIld 2)), (64, iCK 67 6 71 9 3 0), (67, iP 70 (fInc 4 1)), (70, iP 20 fGo), (73, iP 74 (fAld 1))] : List (Nat × AS)), SI X l 67 q.1 q.2 := List.forall_mem_cons.mpr ⟨
  s_aload_n (k := 0) (show decode (cod 67) 0 = .ok (.aload_n 0, 1) by decide +kernel), List.forall_mem_cons.mpr ⟨
  s_aload_n (k := 1) (show decode (cod 67) 1 = .ok (.aload_n 1, 1) by decide +kernel), List.forall_mem_cons.mpr ⟨
  s_invK rfl (rcv_virt (show decode (cod 67) 2 = .ok (.invokevirtual 195, 3) by decide +kernel) cld_67_68 ⟨10, _, _, rfl, by decide, rfl⟩ wd_349 wd_350 wd_351), List.forall_mem_cons.mpr ⟨
  s_istore_n (k := 3) (show decode (cod 67) 5 = .ok (.istore_n 3, 1) by decide +kernel), List.forall_mem_cons.mpr ⟨
  s_aload_n (k := 0) (show decode (cod 67) 6 = .ok (.aload_n 0, 1) by decide +kernel), List.forall_mem_cons.mpr ⟨
  s_iload_n (k := 3) (show decode (cod 67) 7 = .ok (.iload_n 3, 1) by decide +kernel), List.forall_mem_cons.mpr ⟨
  s_invK rfl (rcv_virt (show decode (cod 67) 8 = .ok (.invokevirtual 199, 3) by decide +kernel) cld_67_69 ⟨10, _, _, rfl, by decide, rfl⟩ wd_353 wd_354 wd_355), List.forall_mem_cons.mpr ⟨
  s_ifne (show decode (cod 67) 11 = .ok (.ifCond .ne 6, 3) by decide +kernel) (by decide), List.forall_mem_cons.mpr ⟨
  s_ldc (show decode (cod 67) 14 = .ok (.ldc 80, 2) by decide +kernel) wd_185, List.forall_mem_cons.mpr ⟨
  s_ret (show decode (cod 67) 16 = .ok (.ireturn, 1) by decide +kernel) rI_ok (fun h => by cases h), List.forall_mem_cons.mpr ⟨
  s_iconst (show decode (cod 67) 17 = .ok (.iconst 0, 1) by decide +kernel) rfl, List.forall_mem_cons.mpr ⟨
  s_istore (k := 4) (show decode (cod 67) 18 = .ok (.istore 4, 2) by decide +kernel), List.forall_mem_cons.mpr ⟨
  s_iload (k := 4) (show decode (cod 67) 20 = .ok (.iload 4, 2) by decide +kernel), List.forall_mem_cons.mpr ⟨
  s_aload_n (k := 1) (show decode (cod 67) 22 = .ok (.aload_n 1, 1) by decide +kernel), List.forall_mem_cons.mpr ⟨
  s_getI (show decode (cod 67) 23 = .ok (.getfield 119, 3) by decide +kernel) wd_143 (Or.inl rfl) (Or.inl rfl), List.forall_mem_cons.mpr ⟨
  s_icmpgt (show decode (cod 67) 26 = .ok (.if_icmp .gt 47, 3) by decide +kernel) (by decide), List.forall_mem_cons.mpr ⟨
  s_aload_n (k := 0) (show decode (cod 67) 29 = .ok (.aload_n 0, 1) by decide +kernel), List.forall_mem_cons.mpr ⟨
  s_getR (show decode (cod 67) 30 = .ok (.getfield 11, 3) by decide +kernel) wd_4 (Or.inl rfl) rfl, List.forall_mem_cons.mpr ⟨
  s_iload (k := 4) (show decode (cod 67) 33 = .ok (.iload 4, 2) by decide +kernel), List.forall_mem_cons.mpr ⟨
  s_aaload (show decode (cod 67) 35 = .ok (.aaload, 1) by decide +kernel), List.forall_mem_cons.mpr ⟨
  s_astore (k := 5) (show decode (cod 67) 36 = .ok (.astore 5, 2) by decide +kernel), List.forall_mem_cons.mpr ⟨
  s_iload_n (k := 3) (show decode (cod 67) 38 = .ok (.iload_n 3, 1) by decide +kernel), List.forall_mem_cons.mpr ⟨
  s_iload (k := 4) (show decode (cod 67) 39 = .ok (.iload 4, 2) by decide +kernel), List.forall_mem_cons.mpr ⟨
  s_ishr (show decode (cod 67) 41 = .ok (.ishr, 1) by decide +kernel), List.forall_mem_cons.mpr ⟨
  s_iconst (show decode (cod 67) 42 = .ok (.iconst 1, 1) by decide +kernel) rfl, List.forall_mem_cons.mpr ⟨
  s_iand (show decode (cod 67) 43 = .ok (.iand, 1) by decide +kernel), List.forall_mem_cons.mpr ⟨
  s_ifeq (show decode (cod 67) 44 = .ok (.ifCond .eq 23, 3) by decide +kernel) (by decide), List.forall_mem_cons.mpr ⟨
  s_aload (k := 5) (show decode (cod 67) 47 = .ok (.aload 5, 2) by decide +kernel), List.forall_mem_cons.mpr ⟨
  s_getR (show decode (cod 67) 49 = .ok (.getfield 229, 3) by decide +kernel) wd_356 (Or.inl rfl) rfl, List.forall_mem_cons.mpr ⟨
  s_iload_n (k := 2) (show decode (cod 67) 52 = .ok (.iload_n 2, 1) by decide +kernel), List.forall_mem_cons.mpr ⟨
  s_iaload (show decode (cod 67) 53 = .ok (.iaload, 1) by decide +kernel), List.forall_mem_cons.mpr ⟨
  s_ifne (show decode (cod 67) 54 = .ok (.ifCond .ne 13, 3) by decide +kernel) (by decide), List.forall_mem_cons.mpr ⟨
  s_aload_n (k := 0) (show decode (cod 67) 57 = .ok (.aload_n 0, 1) by decide +kernel), List.forall_mem_cons.mpr ⟨
  s_getR (show decode (cod 67) 58 = .ok (.getfield 36, 3) by decide +kernel) wd_20 (Or.inl rfl) rfl, List.forall_mem_cons.mpr ⟨
  s_aload (k := 5) (show decode (cod 67) 61 = .ok (.aload 5, 2) by decide +kernel), List.forall_mem_cons.mpr ⟨
  s_iload_n (k := 2) (show decode (cod 67) 63 = .ok (.iload_n 2, 1) by decide +kernel), List.forall_mem_cons.mpr ⟨
  s_invK rfl (rcv_virt (show decode (cod 67) 64 = .ok (.invokevirtual 232, 3) by decide +kernel) cld_67_71 ⟨5, _, _, rfl, by decide, rfl⟩ wd_358 wd_359 wd_360), List.forall_mem_cons.mpr ⟨
  s_iinc (show decode (cod 67) 67 = .ok (.iinc 4 1, 3) by decide +kernel) rfl, List.forall_mem_cons.mpr ⟨
  s_goto (show decode (cod 67) 70 = .ok (.goto (-50), 3) by decide +kernel) (by decide), List.forall_mem_cons.mpr ⟨
  s_aload_n (k := 1) (show decode (cod 67) 73 = .ok (.aload_n 1, 1) by decide +kernel), fun _ h => by cases h⟩⟩⟩⟩⟩⟩⟩⟩⟩⟩⟩⟩⟩⟩⟩⟩⟩⟩⟩⟩⟩⟩⟩⟩⟩⟩⟩⟩⟩⟩⟩⟩⟩⟩⟩⟩⟩⟩⟩⟩
set_option maxRecDepth 100000 in
set_option maxHeartbeats 4000000 in
theorem si67_1 (X : CX) (l : Launch) : ∀ q ∈ ([(74, iRR 77 (gtR 28)), (77, iP 78 (fIld 2)), (78, iRI 79 qAI), (79, iP 80 (fK (.inl 1))), (80, iB 83 87 (b2 (fun x y => decide (x ≠ y)))), (83, iP 84 (fK (.inl 0))), (84, iP 89 fGo), (87, iP 89 (fK (.inl (-1000003)))), (89, iRet rI)] : List (Nat × AS)), SI X l 67 q.1 q.2 := List.forall_mem_cons.mpr ⟨
  s_getR (show decode (cod 67) 74 = .ok (.getfield 229, 3) by decide +kernel) wd_356 (Or.inl rfl) rfl, List.forall_mem_cons.mpr ⟨
  s_iload_n (k := 2) (show decode (cod 67) 77 = .ok (.iload_n 2, 1) by decide +kernel), List.forall_mem_cons.mpr ⟨
  s_iaload (show decode (cod 67) 78 = .ok (.iaload, 1) by decide +kernel), List.forall_mem_cons.mpr ⟨
  s_iconst (show decode (cod 67) 79 = .ok (.iconst 1, 1) by decide +kernel) rfl, List.forall_mem_cons.mpr ⟨
  s_icmpne (show decode (cod 67) 80 = .ok (.if_icmp .ne 7, 3) by decide +kernel) (by decide), List.forall_mem_cons.mpr ⟨
  s_iconst (show decode (cod 67) 83 = .ok (.iconst 0, 1) by decide +kernel) rfl, List.forall_mem_cons.mpr ⟨
  s_goto (show decode (cod 67) 84 = .ok (.goto 5, 3) by decide +kernel) (by decide), List.forall_mem_cons.mpr ⟨
  s_ldc (show decode (cod 67) 87 = .ok (.ldc 50, 2) by decide +kernel) wd_95, List.forall_mem_cons.mpr ⟨
  s_ret (show decode (cod 67) 89 = .ok (.ireturn, 1) by decide +kernel) rI_ok (fun h => by cases h), fun _ h => by cases h⟩⟩⟩⟩⟩⟩⟩⟩⟩
set_option maxRecDepth 100000 in
theorem si67 (X : CX) (l : Launch) : ∀ q ∈ pt67, SI X l 67 q.1 q.2 := (List.forall_mem_append (l₁ := _) (l₂ := _)).mpr ⟨si67_0 X l, si67_1 X l⟩
set_option maxRecDepth 100000 in
set_option maxHeartbeats 4000000 in
theorem si68_0 (X : CX) (l : Launch) : ∀ q ∈ ([(0, iP 1 (fK (.inl 1))), (1, iP 2 (fAld 1)), (2, iRI 5 (gtI 21)), (5, iP 6 (f2I (fun x y => x <<< (y &&& 31)))), (6, iP 7 (fIst 2)), (7, iP 8 (fAld 1)), (8, iRI 11 (gtI 21)), (11, iP 12 (fIst 3)), (12, iP 13 (fIld 3)), (13, iB 16 42 (b1 (fun x => decide (x < 0)))), (16, iP 17 (fIld 2)), (17, iP 18 (fIld 3)), (18, iP 19 (f2I (fun x y => x >>> (y &&& 31)))), (19, iP 20 (fK (.inl 1))), (20, iP 21 (f2I (fun x y => x &&& y))), (21, iB 24 36 (b1 (fun x => decide (x = 0)))), (24, iP 25 (fIld 2)), (25, iP 26 (fAld 0)), (26, iRR 29 (gtR 43)), (29, iP 30 (fIld 3)), (30, iRR 31 qAR), (31, iRI 34 (gtI 26)), (34, iP 35 (f2I (fun x y => x ||| y))), (35, iP 36 (fIst 2)), (36, iP 39 (fInc 3 (-1))), (39, iP 12 fGo), (42, iP 43 (fIld 2)), (43, iRet rI)] : List (Nat × AS)), SI X l 68 q.1 q.2 := List.forall_mem_cons.mpr ⟨
  s_iconst (show decode (cod 68) 0 = .ok (.iconst 1, 1) by decide +kernel) rfl, List.forall_mem_cons.mpr ⟨
  s_aload_n (k := 1) (show decode (cod 68) 1 = .ok (.aload_n 1, 1) by decide +kernel), List.forall_mem_cons.mpr ⟨
  s_getI (show decode (cod 68) 2 = .ok (.getfield 119, 3) by decide +kernel) wd_143 (Or.inl rfl) (Or.inl rfl), List.forall_mem_cons.mpr ⟨
  s_ishl (show decode (cod 68) 5 = .ok (.ishl, 1) by decide +kernel), List.forall_mem_cons.mpr ⟨
  s_istore_n (k := 2) (show decode (cod 68) 6 = .ok (.istore_n 2, 1) by decide +kernel), List.forall_mem_cons.mpr ⟨
  s_aload_n (k := 1) (show decode (cod 68) 7 = .ok (.aload_n 1, 1) by decide +kernel), List.forall_mem_cons.mpr ⟨
  s_getI (show decode (cod 68) 8 = .ok (.getfield 119, 3) by decide +kernel) wd_143 (Or.inl rfl) (Or.inl rfl), List.forall_mem_cons.mpr ⟨
  s_istore_n (k := 3) (show decode (cod 68) 11 = .ok (.istore_n 3, 1) by decide +kernel), List.forall_mem_cons.mpr ⟨
  s_iload_n (k := 3) (show decode (cod 68) 12 = .ok (.iload_n 3, 1) by decide +kernel), List.forall_mem_cons.mpr ⟨
  s_iflt (show decode (cod 68) 13 = .ok (.ifCond .lt 29, 3) by decide +kernel) (by decide), List.forall_mem_cons.mpr ⟨
  s_iload_n (k := 2) (show decode (cod 68) 16 = .ok (.iload_n 2, 1) by decide +kernel), List.forall_mem_cons.mpr ⟨
  s_iload_n (k := 3) (show decode (cod 68) 17 = .ok (.iload_n 3, 1) by decide +kernel), List.forall_mem_cons.mpr ⟨
  s_ishr (show decode (cod 68) 18 = .ok (.ishr, 1) by decide +kernel), List.forall_mem_cons.mpr ⟨
  s_iconst (show decode (cod 68) 19 = .ok (.iconst 1, 1) by decide +kernel) rfl, List.forall_mem_cons.mpr ⟨
  s_iand (show decode (cod 68) 20 = .ok (.iand, 1) by decide +kernel), List.forall_mem_cons.mpr ⟨
  s_ifeq (show decode (cod 68) 21 = .ok (.ifCond .eq 15, 3) by decide +kernel) (by decide), List.forall_mem_cons.mpr ⟨
  s_iload_n (k := 2) (show decode (cod 68) 24 = .ok (.iload_n 2, 1) by decide +kernel), List.forall_mem_cons.mpr ⟨
  s_aload_n (k := 0) (show decode (cod 68) 25 = .ok (.aload_n 0, 1) by decide +kernel), List.forall_mem_cons.mpr ⟨
  s_getR (show decode (cod 68) 26 = .ok (.getfield 11, 3) by decide +kernel) wd_4 (Or.inl rfl) rfl, List.forall_mem_cons.mpr ⟨
  s_iload_n (k := 3) (show decode (cod 68) 29 = .ok (.iload_n 3, 1) by decide +kernel), List.forall_mem_cons.mpr ⟨
  s_aaload (show decode (cod 68) 30 = .ok (.aaload, 1) by decide +kernel), List.forall_mem_cons.mpr ⟨
  s_getI (show decode (cod 68) 31 = .ok (.getfield 226, 3) by decide +kernel) wd_361 (Or.inl rfl) (Or.inl rfl), List.forall_mem_cons.mpr ⟨
  s_ior (show decode (cod 68) 34 = .ok (.ior, 1) by decide +kernel), List.forall_mem_cons.mpr ⟨
  s_istore_n (k := 2) (show decode (cod 68) 35 = .ok (.istore_n 2, 1) by decide +kernel), List.forall_mem_cons.mpr ⟨
  s_iinc (show decode (cod 68) 36 = .ok (.iinc 3 (-1), 3) by decide +kernel) rfl, List.forall_mem_cons.mpr ⟨
  s_goto (show decode (cod 68) 39 = .ok (.goto (-27), 3) by decide +kernel) (by decide), List.forall_mem_cons.mpr ⟨
  s_iload_n (k := 2) (show decode (cod 68) 42 = .ok (.iload_n 2, 1) by decide +kernel), List.forall_mem_cons.mpr ⟨
  s_ret (show decode (cod 68) 43 = .ok (.ireturn, 1) by decide +kernel) rI_ok (fun h => by cases h), fun _ h => by cases h⟩⟩⟩⟩⟩⟩⟩⟩⟩⟩⟩⟩⟩⟩⟩⟩⟩⟩⟩⟩⟩⟩⟩⟩⟩⟩⟩⟩
set_option maxRecDepth 100000 in
theorem si68 (X : CX) (l : Launch) : ∀ q ∈ pt68, SI X l 68 q.1 q.2 :=  si68_0 X l
set_option maxRecDepth 100000 in
set_option maxHeartbeats 4000000 in
theorem si69_0 (X : CX) (l : Launch) : ∀ q ∈ ([(0, iP 1 (fK (.inl 0))), (1, iP 2 (fIst 2)), (2, iP 3 (fIld 2)), (3, iP 5 (fK (.inl 8))), (5, iB 8 36 (b2 (fun x y => decide (y ≤ x)))), (8, iP 9 (fIld 1)), (9, iP 10 (fIld 2)), (10, iP 11 (f2I (fun x y => x >>> (y &&& 31)))), (11, iP 12 (fK (.inl 1))), (12, iP 13 (f2I (fun x y => x &&& y))), (13, iB 16 30 (b1 (fun x => decide (x = 0)))), (16, iP 17 (fAld 0)), (17, iRR 20 (gtR 43)), (20, iP 21 (fIld 2)), (21, iRR 22 qAR), (22, iCK 25 7 70 1 1 1), (25, iB 28 30 (b1 (fun x => decide (x ≠ 0)))), (28, iP 29 (fK (.inl 0))), (29, iRet rZ), (30, iP 33 (fInc 2 1)), (33, iP 2 fGo), (36, iP 37 (fK (.inl 1))), (37, iRet rZ)] : List (Nat × AS)), SI X l 69 q.1 q.2 := List.forall_mem_cons.mpr ⟨
  s_iconst (show decode (cod 69) 0 = .ok (.iconst 0, 1) by decide +kernel) rfl, List.forall_mem_cons.mpr ⟨
  s_istore_n (k := 2) (show decode (cod 69) 1 = .ok (.istore_n 2, 1) by decide +kernel), List.forall_mem_cons.mpr ⟨
  s_iload_n (k := 2) (show decode (cod 69) 2 = .ok (.iload_n 2, 1) by decide +kernel), List.forall_mem_cons.mpr ⟨
  s_bipush (show decode (cod 69) 3 = .ok (.bipush 8, 2) by decide +kernel) rfl, List.forall_mem_cons.mpr ⟨
  s_icmpge (show decode (cod 69) 5 = .ok (.if_icmp .ge 31, 3) by decide +kernel) (by decide), List.forall_mem_cons.mpr ⟨
  s_iload_n (k := 1) (show decode (cod 69) 8 = .ok (.iload_n 1, 1) by decide +kernel), List.forall_mem_cons.mpr ⟨
  s_iload_n (k := 2) (show decode (cod 69) 9 = .ok (.iload_n 2, 1) by decide +kernel), List.forall_mem_cons.mpr ⟨
  s_ishr (show decode (cod 69) 10 = .ok (.ishr, 1) by decide +kernel), List.forall_mem_cons.mpr ⟨
  s_iconst (show decode (cod 69) 11 = .ok (.iconst 1, 1) by decide +kernel) rfl, List.forall_mem_cons.mpr ⟨
  s_iand (show decode (cod 69) 12 = .ok (.iand, 1) by decide +kernel), List.forall_mem_cons.mpr ⟨
  s_ifeq (show decode (cod 69) 13 = .ok (.ifCond .eq 17, 3) by decide +kernel) (by decide), List.forall_mem_cons.mpr ⟨
  s_aload_n (k := 0) (show decode (cod 69) 16 = .ok (.aload_n 0, 1) by decide +kernel), List.forall_mem_cons.mpr ⟨
  s_getR (show decode (cod 69) 17 = .ok (.getfield 11, 3) by decide +kernel) wd_4 (Or.inl rfl) rfl, List.forall_mem_cons.mpr ⟨
  s_iload_n (k := 2) (show decode (cod 69) 20 = .ok (.iload_n 2, 1) by decide +kernel), List.forall_mem_cons.mpr ⟨
  s_aaload (show decode (cod 69) 21 = .ok (.aaload, 1) by decide +kernel), List.forall_mem_cons.mpr ⟨
  s_invK rfl (rcv_virt (show decode (cod 69) 22 = .ok (.invokevirtual 210, 3) by decide +kernel) cld_69_70 ⟨6, _, _, rfl, by decide, rfl⟩ wd_363 wd_364 wd_365), List.forall_mem_cons.mpr ⟨
  s_ifne (show decode (cod 69) 25 = .ok (.ifCond .ne 5, 3) by decide +kernel) (by decide), List.forall_mem_cons.mpr ⟨
  s_iconst (show decode (cod 69) 28 = .ok (.iconst 0, 1) by decide +kernel) rfl, List.forall_mem_cons.mpr ⟨
  s_ret (show decode (cod 69) 29 = .ok (.ireturn, 1) by decide +kernel) rZ_ok (fun _ => rZ_b), List.forall_mem_cons.mpr ⟨
  s_iinc (show decode (cod 69) 30 = .ok (.iinc 2 1, 3) by decide +kernel) rfl, List.forall_mem_cons.mpr ⟨
  s_goto (show decode (cod 69) 33 = .ok (.goto (-31), 3) by decide +kernel) (by decide), List.forall_mem_cons.mpr ⟨
  s_iconst (show decode (cod 69) 36 = .ok (.iconst 1, 1) by decide +kernel) rfl, List.forall_mem_cons.mpr ⟨
  s_ret (show decode (cod 69) 37 = .ok (.ireturn, 1) by decide +kernel) rZ_ok (fun _ => rZ_b), fun _ h => by cases h⟩⟩⟩⟩⟩⟩⟩⟩⟩⟩⟩⟩⟩⟩⟩⟩⟩⟩⟩⟩⟩⟩⟩
set_option maxRecDepth 100000 in
theorem si69 (X : CX) (l : Launch) : ∀ q ∈ pt69, SI X l 69 q.1 q.2 :=  si69_0 X l
set_option maxRecDepth 100000 in
set_option maxHeartbeats 4000000 in
theorem si70_0 (X : CX) (l : Launch) : ∀ q ∈ ([(0, iP 1 (fAld 0)), (1, iRI 4 (gtI 25)), (4, iB 7 11 (b1 (fun x => decide (x ≠ 0)))), (7, iP 8 (fK (.inl 1))), (8, iP 12 fGo), (11, iP 12 (fK (.inl 0))), (12, iRet rZ)] : List (Nat × AS)), SI X l 70 q.1 q.2 := List.forall_mem_cons.mpr ⟨
  s_aload_n (k := 0) (show decode (cod 70) 0 = .ok (.aload_n 0, 1) by decide +kernel), List.forall_mem_cons.mpr ⟨
  s_getI (show decode (cod 70) 1 = .ok (.getfield 25, 3) by decide +kernel) wd_85 (Or.inl rfl) (Or.inl rfl), List.forall_mem_cons.mpr ⟨
  s_ifne (show decode (cod 70) 4 = .ok (.ifCond .ne 7, 3) by decide +kernel) (by decide), List.forall_mem_cons.mpr ⟨
  s_iconst (show decode (cod 70) 7 = .ok (.iconst 1, 1) by decide +kernel) rfl, List.forall_mem_cons.mpr ⟨
  s_goto (show decode (cod 70) 8 = .ok (.goto 4, 3) by decide +kernel) (by decide), List.forall_mem_cons.mpr ⟨
  s_iconst (show decode (cod 70) 11 = .ok (.iconst 0, 1) by decide +kernel) rfl, List.forall_mem_cons.mpr ⟨
  s_ret (show decode (cod 70) 12 = .ok (.ireturn, 1) by decide +kernel) rZ_ok (fun _ => rZ_b), fun _ h => by cases h⟩⟩⟩⟩⟩⟩⟩
set_option maxRecDepth 100000 in
theorem si70 (X : CX) (l : Launch) : ∀ q ∈ pt70, SI X l 70 q.1 q.2 :=  si70_0 X l
set_option maxRecDepth 100000 in
set_option maxHeartbeats 4000000 in
theorem si71_0 (X : CX) (l : Launch) : ∀ q ∈ ([(0, iP 1 (fAld 0)), (1, iP 2 (fIld 2)), (2, iW 5 (ptI 19)), (5, iP 6 (fAld 0)), (6, iP 7 (fK (.inl 0))), (7, iW 10 (ptZ 20)), (10, iP 11 (fAld 0)), (11, iP 12 (fK (.inl (-1)))), (12, iW 15 (ptI 16)), (15, iP 16 (fAld 0)), (16, iCK 19 6 72 1 1 0), (19, iP 20 (fK (.inl 0))), (20, iP 21 (fIst 3)), (21, iP 22 (fIld 3)), (22, iP 23 (fAld 1)), (23, iRI 26 (gtI 23)), (26, iB 29 181 (b2 (fun x y => decide (y ≤ x)))), (29, iP 30 (fAld 0)), (30, iRI 33 (gtI 20)), (33, iB 36 181 (b1 (fun x => decide (x ≠ 0)))), (36, iP 37 (fAld 1)), (37, iP 38 (fIld 3)), (38, iCK 41 7 18 2 2 3), (41, iP 43 (fAst 4)), (43, iP 45 (fAld 4)), (45, iRI 48 (qInst [10] [1, 2, 3, 4])), (48, iB 51 85 (b1 (fun x => decide (x = 0)))), (51, iP 53 (fAld 4)), (53, iRR 56 (qCast [10])), (56, iP 58 (fAst 5)), (58, iP 59 (fAld 0)), (59, iP 60 (fAld 0)), (60, iRR 63 (gtR 15)), (63, iP 64 (fAld 0)), (64, iRI 67 (gtI 16)), (67, iRR 68 qAR), (68, iP 69 (fK (.inl 0))), (69, iP 71 (fAld 5)), (71, iRI 74 (gtI 42)), (74, iP 75 fI2l)] : List (Nat × AS)), SI X l 71 q.1 q.2 := List.forall_mem_cons.mpr ⟨
  s_aload_n (k := 0) (show decode (cod 71) 0 = .ok (.aload_n 0, 1) by decide +kernel), List.forall_mem_cons.mpr ⟨
  s_iload_n (k := 2) (show decode (cod 71) 1 = .ok (.iload_n 2, 1) by decide +kernel), List.forall_mem_cons.mpr ⟨
  s_putI (show decode (cod 71) 2 = .ok (.putfield 34, 3) by decide +kernel) wd_49 (Or.inl rfl) (Or.inl rfl) rfl, List.forall_mem_cons.mpr ⟨
  s_aload_n (k := 0) (show decode (cod 71) 5 = .ok (.aload_n 0, 1) by decide +kernel), List.forall_mem_cons.mpr ⟨
  s_iconst (show decode (cod 71) 6 = .ok (.iconst 0, 1) by decide +kernel) rfl, List.forall_mem_cons.mpr ⟨
  s_putZ (show decode (cod 71) 7 = .ok (.putfield 37, 3) by decide +kernel) wd_50 (Or.inl rfl) (Or.inl rfl) rfl, List.forall_mem_cons.mpr ⟨
  s_aload_n (k := 0) (show decode (cod 71) 10 = .ok (.aload_n 0, 1) by decide +kernel), List.forall_mem_cons.mpr ⟨
  s_iconst (show decode (cod 71) 11 = .ok (.iconst (-1), 1) by decide +kernel) rfl, List.forall_mem_cons.mpr ⟨
  s_putI (show decode (cod 71) 12 = .ok (.putfield 23, 3) by decide +kernel) wd_46 (Or.inl rfl) (Or.inl rfl) rfl, List.forall_mem_cons.mpr ⟨
  s_aload_n (k := 0) (show decode (cod 71) 15 = .ok (.aload_n 0, 1) by decide +kernel), List.forall_mem_cons.mpr ⟨
  s_invK rfl (rcv_virt (show decode (cod 71) 16 = .ok (.invokevirtual 41, 3) by decide +kernel) cld_71_72 ⟨5, _, _, rfl, by decide, rfl⟩ wd_367 wd_368 wd_369), List.forall_mem_cons.mpr ⟨
  s_iconst (show decode (cod 71) 19 = .ok (.iconst 0, 1) by decide +kernel) rfl, List.forall_mem_cons.mpr ⟨
  s_istore_n (k := 3) (show decode (cod 71) 20 = .ok (.istore_n 3, 1) by decide +kernel), List.forall_mem_cons.mpr ⟨
  s_iload_n (k := 3) (show decode (cod 71) 21 = .ok (.iload_n 3, 1) by decide +kernel), List.forall_mem_cons.mpr ⟨
  s_aload_n (k := 1) (show decode (cod 71) 22 = .ok (.aload_n 1, 1) by decide +kernel), List.forall_mem_cons.mpr ⟨
  s_getI (show decode (cod 71) 23 = .ok (.getfield 44, 3) by decide +kernel) wd_370 (Or.inl rfl) (Or.inl rfl), List.forall_mem_cons.mpr ⟨
  s_icmpge (show decode (cod 71) 26 = .ok (.if_icmp .ge 155, 3) by decide +kernel) (by decide), List.forall_mem_cons.mpr ⟨
  s_aload_n (k := 0) (show decode (cod 71) 29 = .ok (.aload_n 0, 1) by decide +kernel), List.forall_mem_cons.mpr ⟨
  s_getI (show decode (cod 71) 30 = .ok (.getfield 37, 3) by decide +kernel) wd_50 (Or.inl rfl) (Or.inr rfl), List.forall_mem_cons.mpr ⟨
  s_ifne (show decode (cod 71) 33 = .ok (.ifCond .ne 148, 3) by decide +kernel) (by decide), List.forall_mem_cons.mpr ⟨
  s_aload_n (k := 1) (show decode (cod 71) 36 = .ok (.aload_n 1, 1) by decide +kernel), List.forall_mem_cons.mpr ⟨
  s_iload_n (k := 3) (show decode (cod 71) 37 = .ok (.iload_n 3, 1) by decide +kernel), List.forall_mem_cons.mpr ⟨
  s_invK rfl (rcv_virt (show decode (cod 71) 38 = .ok (.invokevirtual 49, 3) by decide +kernel) cld_71_18 ⟨6, _, _, rfl, by decide, rfl⟩ wd_371 wd_126 wd_127), List.forall_mem_cons.mpr ⟨
  s_astore (k := 4) (show decode (cod 71) 41 = .ok (.astore 4, 2) by decide +kernel), List.forall_mem_cons.mpr ⟨
  s_aload (k := 4) (show decode (cod 71) 43 = .ok (.aload 4, 2) by decide +kernel), List.forall_mem_cons.mpr ⟨
  s_inst (show decode (cod 71) 45 = .ok (.instanceof 53, 3) by decide +kernel) wd_372 (List.forall_mem_cons.mpr ⟨⟨"StepsAhead$Work", ⟨9, _, _, rfl, by decide, rfl⟩, Or.inl rfl⟩, fun _ h => by cases h⟩) (List.forall_mem_cons.mpr ⟨⟨"StepsAhead$Call", ⟨0, _, _, rfl, by decide, rfl⟩, Or.inl (by decide)⟩, List.forall_mem_cons.mpr ⟨⟨"StepsAhead$Either", ⟨1, _, _, rfl, by decide, rfl⟩, Or.inl (by decide)⟩, List.forall_mem_cons.mpr ⟨⟨"StepsAhead$Loop", ⟨2, _, _, rfl, by decide, rfl⟩, Or.inl (by decide)⟩, List.forall_mem_cons.mpr ⟨⟨"StepsAhead$Op", ⟨3, _, _, rfl, by decide, rfl⟩, Or.inl (by decide)⟩, fun _ h => by cases h⟩⟩⟩⟩), List.forall_mem_cons.mpr ⟨
  s_ifeq (show decode (cod 71) 48 = .ok (.ifCond .eq 37, 3) by decide +kernel) (by decide), List.forall_mem_cons.mpr ⟨
  s_aload (k := 4) (show decode (cod 71) 51 = .ok (.aload 4, 2) by decide +kernel), List.forall_mem_cons.mpr ⟨
  s_cast (show decode (cod 71) 53 = .ok (.checkcast 53, 3) by decide +kernel) wd_372 (List.forall_mem_cons.mpr ⟨⟨"StepsAhead$Work", ⟨9, _, _, rfl, by decide, rfl⟩, Or.inl rfl⟩, fun _ h => by cases h⟩), List.forall_mem_cons.mpr ⟨
  s_astore (k := 5) (show decode (cod 71) 56 = .ok (.astore 5, 2) by decide +kernel), List.forall_mem_cons.mpr ⟨
  s_aload_n (k := 0) (show decode (cod 71) 58 = .ok (.aload_n 0, 1) by decide +kernel), List.forall_mem_cons.mpr ⟨
  s_aload_n (k := 0) (show decode (cod 71) 59 = .ok (.aload_n 0, 1) by decide +kernel), List.forall_mem_cons.mpr ⟨
  s_getR (show decode (cod 71) 60 = .ok (.getfield 20, 3) by decide +kernel) wd_45 (Or.inl rfl) rfl, List.forall_mem_cons.mpr ⟨
  s_aload_n (k := 0) (show decode (cod 71) 63 = .ok (.aload_n 0, 1) by decide +kernel), List.forall_mem_cons.mpr ⟨
  s_getI (show decode (cod 71) 64 = .ok (.getfield 23, 3) by decide +kernel) wd_46 (Or.inl rfl) (Or.inl rfl), List.forall_mem_cons.mpr ⟨
  s_aaload (show decode (cod 71) 67 = .ok (.aaload, 1) by decide +kernel), List.forall_mem_cons.mpr ⟨
  s_iconst (show decode (cod 71) 68 = .ok (.iconst 0, 1) by decide +kernel) rfl, List.forall_mem_cons.mpr ⟨
  s_aload (k := 5) (show decode (cod 71) 69 = .ok (.aload 5, 2) by decide +kernel), List.forall_mem_cons.mpr ⟨
  s_getI (show decode (cod 71) 71 = .ok (.getfield 55, 3) by decide +kernel) wd_373 (Or.inl rfl) (Or.inl rfl), List.forall_mem_cons.mpr ⟨
  s_i2l (show decode (cod 71) 74 = .ok (.i2l, 1) by decide +kernel), fun _ h => by cases h⟩⟩⟩⟩⟩⟩⟩⟩⟩⟩⟩⟩⟩⟩⟩⟩⟩⟩⟩⟩⟩⟩⟩⟩⟩⟩⟩⟩⟩⟩⟩⟩⟩⟩⟩⟩⟩⟩⟩⟩
set_option maxRecDepth 100000 in
set_option maxHeartbeats 4000000 in
theorem si71_1 (X : CX) (l : Launch) : ∀ q ∈ ([(75, iP 78 (fK (.inr (.inl 8640)))), (78, iP 79 (f2J (fun x y => x * y))), (79, iCK 82 6 74 5 4 0), (82, iP 175 fGo), (85, iP 87 (fAld 4)), (87, iRI 90 (qInst [1] [2, 3, 4, 10])), (90, iB 93 109 (b1 (fun x => decide (x = 0)))), (93, iP 95 (fAld 4)), (95, iRR 98 (qCast [1])), (98, iP 100 (fAst 6)), (100, iP 101 (fAld 0)), (101, iP 103 (fAld 6)), (103, iCK 106 6 75 6 2 0), (106, iP 175 fGo), (109, iP 111 (fAld 4)), (111, iB 114 131 bN), (114, iP 116 (fAld 4)), (116, iRI 119 (gtI 1)), (119, iP 121 (fK (.inl 8))), (121, iB 124 131 (b2 (fun x y => decide (x ≠ y)))), (124, iP 125 (fAld 0)), (125, iCK 128 6 83 4 1 0), (128, iP 175 fGo), (131, iP 133 (fAld 4)), (133, iB 136 171 bN), (136, iP 137 (fAld 1)), (137, iP 139 (fAld 4)), (139, iRI 142 (gtI 4)), (142, iCK 145 7 18 2 2 3), (145, iP 147 (fAst 8)), (147, iP 149 (fAld 8)), (149, iRI 152 (qInst [3] [1, 2, 4, 10])), (152, iB 155 171 (b1 (fun x => decide (x = 0)))), (155, iP 157 (fAld 8)), (157, iRR 160 (qCast [3])), (160, iP 162 (fAst 7)), (162, iP 163 (fAld 0)), (163, iP 165 (fAld 7)), (165, iCK 168 6 86 4 2 0), (168, iP 175 fGo)] : List (Nat × AS)), SI X l 71 q.1 q.2 := List.forall_mem_cons.mpr ⟨
  s_ldc2 (show decode (cod 71) 75 = .ok (.ldc2_w 58, 3) by decide +kernel) wd_374, List.forall_mem_cons.mpr ⟨
  s_lmul (show decode (cod 71) 78 = .ok (.lmul, 1) by decide +kernel), List.forall_mem_cons.mpr ⟨
  s_invK rfl (rcv_virt (show decode (cod 71) 79 = .ok (.invokevirtual 60, 3) by decide +kernel) cld_71_74 ⟨5, _, _, rfl, by decide, rfl⟩ wd_376 wd_377 wd_378), List.forall_mem_cons.mpr ⟨
  s_goto (show decode (cod 71) 82 = .ok (.goto 93, 3) by decide +kernel) (by decide), List.forall_mem_cons.mpr ⟨
  s_aload (k := 4) (show decode (cod 71) 85 = .ok (.aload 4, 2) by decide +kernel), List.forall_mem_cons.mpr ⟨
  s_inst (show decode (cod 71) 87 = .ok (.instanceof 64, 3) by decide +kernel) wd_379 (List.forall_mem_cons.mpr ⟨⟨"StepsAhead$Call", ⟨0, _, _, rfl, by decide, rfl⟩, Or.inl rfl⟩, fun _ h => by cases h⟩) (List.forall_mem_cons.mpr ⟨⟨"StepsAhead$Either", ⟨1, _, _, rfl, by decide, rfl⟩, Or.inl (by decide)⟩, List.forall_mem_cons.mpr ⟨⟨"StepsAhead$Loop", ⟨2, _, _, rfl, by decide, rfl⟩, Or.inl (by decide)⟩, List.forall_mem_cons.mpr ⟨⟨"StepsAhead$Op", ⟨3, _, _, rfl, by decide, rfl⟩, Or.inl (by decide)⟩, List.forall_mem_cons.mpr ⟨⟨"StepsAhead$Work", ⟨9, _, _, rfl, by decide, rfl⟩, Or.inl (by decide)⟩, fun _ h => by cases h⟩⟩⟩⟩), List.forall_mem_cons.mpr ⟨
  s_ifeq (show decode (cod 71) 90 = .ok (.ifCond .eq 19, 3) by decide +kernel) (by decide), List.forall_mem_cons.mpr ⟨
  s_aload (k := 4) (show decode (cod 71) 93 = .ok (.aload 4, 2) by decide +kernel), List.forall_mem_cons.mpr ⟨
  s_cast (show decode (cod 71) 95 = .ok (.checkcast 64, 3) by decide +kernel) wd_379 (List.forall_mem_cons.mpr ⟨⟨"StepsAhead$Call", ⟨0, _, _, rfl, by decide, rfl⟩, Or.inl rfl⟩, fun _ h => by cases h⟩), List.forall_mem_cons.mpr ⟨
  s_astore (k := 6) (show decode (cod 71) 98 = .ok (.astore 6, 2) by decide +kernel), List.forall_mem_cons.mpr ⟨
  s_aload_n (k := 0) (show decode (cod 71) 100 = .ok (.aload_n 0, 1) by decide +kernel), List.forall_mem_cons.mpr ⟨
  s_aload (k := 6) (show decode (cod 71) 101 = .ok (.aload 6, 2) by decide +kernel), List.forall_mem_cons.mpr ⟨
  s_invK rfl (rcv_virt (show decode (cod 71) 103 = .ok (.invokevirtual 66, 3) by decide +kernel) cld_71_75 ⟨5, _, _, rfl, by decide, rfl⟩ wd_381 wd_382 wd_383), List.forall_mem_cons.mpr ⟨
  s_goto (show decode (cod 71) 106 = .ok (.goto 69, 3) by decide +kernel) (by decide), List.forall_mem_cons.mpr ⟨
  s_aload (k := 4) (show decode (cod 71) 109 = .ok (.aload 4, 2) by decide +kernel), List.forall_mem_cons.mpr ⟨
  s_ifnull (show decode (cod 71) 111 = .ok (.ifnull 20, 3) by decide +kernel) (by decide), List.forall_mem_cons.mpr ⟨
  s_aload (k := 4) (show decode (cod 71) 114 = .ok (.aload 4, 2) by decide +kernel), List.forall_mem_cons.mpr ⟨
  s_getI (show decode (cod 71) 116 = .ok (.getfield 70, 3) by decide +kernel) wd_384 (Or.inl rfl) (Or.inl rfl), List.forall_mem_cons.mpr ⟨
  s_bipush (show decode (cod 71) 119 = .ok (.bipush 8, 2) by decide +kernel) rfl, List.forall_mem_cons.mpr ⟨
  s_icmpne (show decode (cod 71) 121 = .ok (.if_icmp .ne 10, 3) by decide +kernel) (by decide), List.forall_mem_cons.mpr ⟨
  s_aload_n (k := 0) (show decode (cod 71) 124 = .ok (.aload_n 0, 1) by decide +kernel), List.forall_mem_cons.mpr ⟨
  s_invK rfl (rcv_virt (show decode (cod 71) 125 = .ok (.invokevirtual 75, 3) by decide +kernel) cld_71_83 ⟨5, _, _, rfl, by decide, rfl⟩ wd_386 wd_387 wd_388), List.forall_mem_cons.mpr ⟨
  s_goto (show decode (cod 71) 128 = .ok (.goto 47, 3) by decide +kernel) (by decide), List.forall_mem_cons.mpr ⟨
  s_aload (k := 4) (show decode (cod 71) 131 = .ok (.aload 4, 2) by decide +kernel), List.forall_mem_cons.mpr ⟨
  s_ifnull (show decode (cod 71) 133 = .ok (.ifnull 38, 3) by decide +kernel) (by decide), List.forall_mem_cons.mpr ⟨
  s_aload_n (k := 1) (show decode (cod 71) 136 = .ok (.aload_n 1, 1) by decide +kernel), List.forall_mem_cons.mpr ⟨
  s_aload (k := 4) (show decode (cod 71) 137 = .ok (.aload 4, 2) by decide +kernel), List.forall_mem_cons.mpr ⟨
  s_getI (show decode (cod 71) 139 = .ok (.getfield 78, 3) by decide +kernel) wd_389 (Or.inl rfl) (Or.inl rfl), List.forall_mem_cons.mpr ⟨
  s_invK rfl (rcv_virt (show decode (cod 71) 142 = .ok (.invokevirtual 49, 3) by decide +kernel) cld_71_18 ⟨6, _, _, rfl, by decide, rfl⟩ wd_371 wd_126 wd_127), List.forall_mem_cons.mpr ⟨
  s_astore (k := 8) (show decode (cod 71) 145 = .ok (.astore 8, 2) by decide +kernel), List.forall_mem_cons.mpr ⟨
  s_aload (k := 8) (show decode (cod 71) 147 = .ok (.aload 8, 2) by decide +kernel), List.forall_mem_cons.mpr ⟨
  s_inst (show decode (cod 71) 149 = .ok (.instanceof 81, 3) by decide +kernel) wd_390 (List.forall_mem_cons.mpr ⟨⟨"StepsAhead$Loop", ⟨2, _, _, rfl, by decide, rfl⟩, Or.inl rfl⟩, fun _ h => by cases h⟩) (List.forall_mem_cons.mpr ⟨⟨"StepsAhead$Call", ⟨0, _, _, rfl, by decide, rfl⟩, Or.inl (by decide)⟩, List.forall_mem_cons.mpr ⟨⟨"StepsAhead$Either", ⟨1, _, _, rfl, by decide, rfl⟩, Or.inl (by decide)⟩, List.forall_mem_cons.mpr ⟨⟨"StepsAhead$Op", ⟨3, _, _, rfl, by decide, rfl⟩, Or.inl (by decide)⟩, List.forall_mem_cons.mpr ⟨⟨"StepsAhead$Work", ⟨9, _, _, rfl, by decide, rfl⟩, Or.inl (by decide)⟩, fun _ h => by cases h⟩⟩⟩⟩), List.forall_mem_cons.mpr ⟨
  s_ifeq (show decode (cod 71) 152 = .ok (.ifCond .eq 19, 3) by decide +kernel) (by decide), List.forall_mem_cons.mpr ⟨
  s_aload (k := 8) (show decode (cod 71) 155 = .ok (.aload 8, 2) by decide +kernel), List.forall_mem_cons.mpr ⟨
  s_cast (show decode (cod 71) 157 = .ok (.checkcast 81, 3) by decide +kernel) wd_390 (List.forall_mem_cons.mpr ⟨⟨"StepsAhead$Loop", ⟨2, _, _, rfl, by decide, rfl⟩, Or.inl rfl⟩, fun _ h => by cases h⟩), List.forall_mem_cons.mpr ⟨
  s_astore (k := 7) (show decode (cod 71) 160 = .ok (.astore 7, 2) by decide +kernel), List.forall_mem_cons.mpr ⟨
  s_aload_n (k := 0) (show decode (cod 71) 162 = .ok (.aload_n 0, 1) by decide +kernel), List.forall_mem_cons.mpr ⟨
  s_aload (k := 7) (show decode (cod 71) 163 = .ok (.aload 7, 2) by decide +kernel), List.forall_mem_cons.mpr ⟨
  s_invK rfl (rcv_virt (show decode (cod 71) 165 = .ok (.invokevirtual 83, 3) by decide +kernel) cld_71_86 ⟨5, _, _, rfl, by decide, rfl⟩ wd_392 wd_393 wd_394), List.forall_mem_cons.mpr ⟨
  s_goto (show decode (cod 71) 168 = .ok (.goto 7, 3) by decide +kernel) (by decide), fun _ h => by cases h⟩⟩⟩⟩⟩⟩⟩⟩⟩⟩⟩⟩⟩⟩⟩⟩⟩⟩⟩⟩⟩⟩⟩⟩⟩⟩⟩⟩⟩⟩⟩⟩⟩⟩⟩⟩⟩⟩⟩⟩
set_option maxRecDepth 100000 in
set_option maxHeartbeats 4000000 in
theorem si71_2 (X : CX) (l : Launch) : ∀ q ∈ ([(171, iP 172 (fAld 0)), (172, iCK 175 6 72 1 1 0), (175, iP 178 (fInc 3 1)), (178, iP 21 fGo), (181, iP 182 (fAld 1)), (182, iRR 185 (gtR 28)), (185, iP 186 (fAld 0)), (186, iRI 189 (gtI 19)), (189, iP 190 (fAld 0)), (190, iRI 193 (gtI 20)), (193, iB 196 201 (b1 (fun x => decide (x = 0)))), (196, iP 198 (fK (.inl (-1000003)))), (198, iP 202 fGo), (201, iP 202 (fK (.inl 1))), (202, iW 203 wAI), (203, iP 204 (fAld 0)), (204, iRI 207 (gtI 20)), (207, iB 210 223 (b1 (fun x => decide (x ≠ 0)))), (210, iP 211 (fAld 0)), (211, iP 212 (fAld 1)), (212, iRR 215 (gtR 27)), (215, iP 216 (fAld 0)), (216, iRI 219 (gtI 19)), (219, iRR 220 qAR), (220, iCK 223 6 95 6 2 0), (223, iRet rV)] : List (Nat × AS)), SI X l 71 q.1 q.2 := List.forall_mem_cons.mpr ⟨
  s_aload_n (k := 0) (show decode (cod 71) 171 = .ok (.aload_n 0, 1) by decide +kernel), List.forall_mem_cons.mpr ⟨
  s_invK rfl (rcv_virt (show decode (cod 71) 172 = .ok (.invokevirtual 41, 3) by decide +kernel) cld_71_72 ⟨5, _, _, rfl, by decide, rfl⟩ wd_367 wd_368 wd_369), List.forall_mem_cons.mpr ⟨
  s_iinc (show decode (cod 71) 175 = .ok (.iinc 3 1, 3) by decide +kernel) rfl, List.forall_mem_cons.mpr ⟨
  s_goto (show decode (cod 71) 178 = .ok (.goto (-157), 3) by decide +kernel) (by decide), List.forall_mem_cons.mpr ⟨
  s_aload_n (k := 1) (show decode (cod 71) 181 = .ok (.aload_n 1, 1) by decide +kernel), List.forall_mem_cons.mpr ⟨
  s_getR (show decode (cod 71) 182 = .ok (.getfield 87, 3) by decide +kernel) wd_395 (Or.inl rfl) rfl, List.forall_mem_cons.mpr ⟨
  s_aload_n (k := 0) (show decode (cod 71) 185 = .ok (.aload_n 0, 1) by decide +kernel), List.forall_mem_cons.mpr ⟨
  s_getI (show decode (cod 71) 186 = .ok (.getfield 34, 3) by decide +kernel) wd_49 (Or.inl rfl) (Or.inl rfl), List.forall_mem_cons.mpr ⟨
  s_aload_n (k := 0) (show decode (cod 71) 189 = .ok (.aload_n 0, 1) by decide +kernel), List.forall_mem_cons.mpr ⟨
  s_getI (show decode (cod 71) 190 = .ok (.getfield 37, 3) by decide +kernel) wd_50 (Or.inl rfl) (Or.inr rfl), List.forall_mem_cons.mpr ⟨
  s_ifeq (show decode (cod 71) 193 = .ok (.ifCond .eq 8, 3) by decide +kernel) (by decide), List.forall_mem_cons.mpr ⟨
  s_ldc (show decode (cod 71) 196 = .ok (.ldc 91, 2) by decide +kernel) wd_396, List.forall_mem_cons.mpr ⟨
  s_goto (show decode (cod 71) 198 = .ok (.goto 4, 3) by decide +kernel) (by decide), List.forall_mem_cons.mpr ⟨
  s_iconst (show decode (cod 71) 201 = .ok (.iconst 1, 1) by decide +kernel) rfl, List.forall_mem_cons.mpr ⟨
  s_iastore (show decode (cod 71) 202 = .ok (.iastore, 1) by decide +kernel), List.forall_mem_cons.mpr ⟨
  s_aload_n (k := 0) (show decode (cod 71) 203 = .ok (.aload_n 0, 1) by decide +kernel), List.forall_mem_cons.mpr ⟨
  s_getI (show decode (cod 71) 204 = .ok (.getfield 37, 3) by decide +kernel) wd_50 (Or.inl rfl) (Or.inr rfl), List.forall_mem_cons.mpr ⟨
  s_ifne (show decode (cod 71) 207 = .ok (.ifCond .ne 16, 3) by decide +kernel) (by decide), List.forall_mem_cons.mpr ⟨
  s_aload_n (k := 0) (show decode (cod 71) 210 = .ok (.aload_n 0, 1) by decide +kernel), List.forall_mem_cons.mpr ⟨
  s_aload_n (k := 1) (show decode (cod 71) 211 = .ok (.aload_n 1, 1) by decide +kernel), List.forall_mem_cons.mpr ⟨
  s_getR (show decode (cod 71) 212 = .ok (.getfield 92, 3) by decide +kernel) wd_397 (Or.inl rfl) rfl, List.forall_mem_cons.mpr ⟨
  s_aload_n (k := 0) (show decode (cod 71) 215 = .ok (.aload_n 0, 1) by decide +kernel), List.forall_mem_cons.mpr ⟨
  s_getI (show decode (cod 71) 216 = .ok (.getfield 34, 3) by decide +kernel) wd_49 (Or.inl rfl) (Or.inl rfl), List.forall_mem_cons.mpr ⟨
  s_aaload (show decode (cod 71) 219 = .ok (.aaload, 1) by decide +kernel), List.forall_mem_cons.mpr ⟨
  s_invK rfl (rcv_virt (show decode (cod 71) 220 = .ok (.invokevirtual 95, 3) by decide +kernel) cld_71_95 ⟨5, _, _, rfl, by decide, rfl⟩ wd_399 wd_400 wd_401), List.forall_mem_cons.mpr ⟨
  s_ret (show decode (cod 71) 223 = .ok (.return_, 1) by decide +kernel) rV_ok (fun h => by cases h), fun _ h => by cases h⟩⟩⟩⟩⟩⟩⟩⟩⟩⟩⟩⟩⟩⟩⟩⟩⟩⟩⟩⟩⟩⟩⟩⟩⟩⟩
set_option maxRecDepth 100000 in
theorem si71 (X : CX) (l : Launch) : ∀ q ∈ pt71, SI X l 71 q.1 q.2 := (List.forall_mem_append (l₁ := _) (l₂ := _)).mpr ⟨si71_0 X l, (List.forall_mem_append (l₁ := _) (l₂ := _)).mpr ⟨si71_1 X l, si71_2 X l⟩⟩
set_option maxRecDepth 100000 in
set_option maxHeartbeats 4000000 in
theorem si72_0 (X : CX) (l : Launch) : ∀ q ∈ ([(0, iP 1 (fAld 0)), (1, iRI 4 (gtI 16)), (4, iP 5 (fK (.inl 1))), (5, iP 6 (f2I (fun x y => x + y))), (6, iP 8 (fK (.inl 18))), (8, iB 11 17 (b2 (fun x y => decide (x < y)))), (11, iP 12 (fAld 0)), (12, iP 13 (fK (.inl 1))), (13, iW 16 (ptZ 20)), (16, iRet rV), (17, iP 18 (fAld 0)), (18, iP 19 fDup), (19, iRI 22 (gtI 16)), (22, iP 23 (fK (.inl 1))), (23, iP 24 (f2I (fun x y => x + y))), (24, iW 27 (ptI 16)), (27, iP 28 (fAld 0)), (28, iRR 31 (gtR 15)), (31, iP 32 (fAld 0)), (32, iRI 35 (gtI 16)), (35, iRR 36 qAR), (36, iP 37 (fK (.inr (.inl 0)))), (37, iC 40 73 5 2 0), (40, iRet rV)] : List (Nat × AS)), SI X l 72 q.1 q.2 := List.forall_mem_cons.mpr ⟨
  s_aload_n (k := 0) (show decode (cod 72) 0 = .ok (.aload_n 0, 1) by decide +kernel), List.forall_mem_cons.mpr ⟨
  s_getI (show decode (cod 72) 1 = .ok (.getfield 23, 3) by decide +kernel) wd_46 (Or.inl rfl) (Or.inl rfl), List.forall_mem_cons.mpr ⟨
  s_iconst (show decode (cod 72) 4 = .ok (.iconst 1, 1) by decide +kernel) rfl, List.forall_mem_cons.mpr ⟨
  s_iadd (show decode (cod 72) 5 = .ok (.iadd, 1) by decide +kernel), List.forall_mem_cons.mpr ⟨
  s_bipush (show decode (cod 72) 6 = .ok (.bipush 18, 2) by decide +kernel) rfl, List.forall_mem_cons.mpr ⟨
  s_icmplt (show decode (cod 72) 8 = .ok (.if_icmp .lt 9, 3) by decide +kernel) (by decide), List.forall_mem_cons.mpr ⟨
  s_aload_n (k := 0) (show decode (cod 72) 11 = .ok (.aload_n 0, 1) by decide +kernel), List.forall_mem_cons.mpr ⟨
  s_iconst (show decode (cod 72) 12 = .ok (.iconst 1, 1) by decide +kernel) rfl, List.forall_mem_cons.mpr ⟨
  s_putZ (show decode (cod 72) 13 = .ok (.putfield 37, 3) by decide +kernel) wd_50 (Or.inl rfl) (Or.inl rfl) rfl, List.forall_mem_cons.mpr ⟨
  s_ret (show decode (cod 72) 16 = .ok (.return_, 1) by decide +kernel) rV_ok (fun h => by cases h), List.forall_mem_cons.mpr ⟨
  s_aload_n (k := 0) (show decode (cod 72) 17 = .ok (.aload_n 0, 1) by decide +kernel), List.forall_mem_cons.mpr ⟨
  s_dup (show decode (cod 72) 18 = .ok (.dup, 1) by decide +kernel), List.forall_mem_cons.mpr ⟨
  s_getI (show decode (cod 72) 19 = .ok (.getfield 23, 3) by decide +kernel) wd_46 (Or.inl rfl) (Or.inl rfl), List.forall_mem_cons.mpr ⟨
  s_iconst (show decode (cod 72) 22 = .ok (.iconst 1, 1) by decide +kernel) rfl, List.forall_mem_cons.mpr ⟨
  s_iadd (show decode (cod 72) 23 = .ok (.iadd, 1) by decide +kernel), List.forall_mem_cons.mpr ⟨
  s_putI (show decode (cod 72) 24 = .ok (.putfield 23, 3) by decide +kernel) wd_46 (Or.inl rfl) (Or.inl rfl) rfl, List.forall_mem_cons.mpr ⟨
  s_aload_n (k := 0) (show decode (cod 72) 27 = .ok (.aload_n 0, 1) by decide +kernel), List.forall_mem_cons.mpr ⟨
  s_getR (show decode (cod 72) 28 = .ok (.getfield 20, 3) by decide +kernel) wd_45 (Or.inl rfl) rfl, List.forall_mem_cons.mpr ⟨
  s_aload_n (k := 0) (show decode (cod 72) 31 = .ok (.aload_n 0, 1) by decide +kernel), List.forall_mem_cons.mpr ⟨
  s_getI (show decode (cod 72) 32 = .ok (.getfield 23, 3) by decide +kernel) wd_46 (Or.inl rfl) (Or.inl rfl), List.forall_mem_cons.mpr ⟨
  s_aaload (show decode (cod 72) 35 = .ok (.aaload, 1) by decide +kernel), List.forall_mem_cons.mpr ⟨
  s_lconst (show decode (cod 72) 36 = .ok (.lconst 0, 1) by decide +kernel) rfl, List.forall_mem_cons.mpr ⟨
  s_invS (show decode (cod 72) 37 = .ok (.invokestatic 99, 3) by decide +kernel) rfl cld_72_73 wd_403 wd_404, List.forall_mem_cons.mpr ⟨
  s_ret (show decode (cod 72) 40 = .ok (.return_, 1) by decide +kernel) rV_ok (fun h => by cases h), fun _ h => by cases h⟩⟩⟩⟩⟩⟩⟩⟩⟩⟩⟩⟩⟩⟩⟩⟩⟩⟩⟩⟩⟩⟩⟩⟩
set_option maxRecDepth 100000 in
theorem si72 (X : CX) (l : Launch) : ∀ q ∈ pt72, SI X l 72 q.1 q.2 :=  si72_0 X l
set_option maxRecDepth 100000 in
set_option maxHeartbeats 4000000 in
theorem si73_0 (X : CX) (l : Launch) : ∀ q ∈ ([(0, iP 1 (fK (.inl 0))), (1, iP 2 (fIst 3)), (2, iP 3 (fAld 0)), (3, iRI 4 qLen), (4, iP 6 (fIst 4)), (6, iP 7 (fIld 3)), (7, iP 9 (fIld 4)), (9, iB 12 22 (b2 (fun x y => decide (y ≤ x)))), (12, iP 13 (fAld 0)), (13, iP 14 (fIld 3)), (14, iP 15 (fJld 1)), (15, iW 16 wAJ), (16, iP 19 (fInc 3 1)), (19, iP 6 fGo), (22, iRet rV)] : List (Nat × AS)), SI X l 73 q.1 q.2 := List.forall_mem_cons.mpr ⟨
  s_iconst (show decode (cod 73) 0 = .ok (.iconst 0, 1) by decide +kernel) rfl, List.forall_mem_cons.mpr ⟨
  s_istore_n (k := 3) (show decode (cod 73) 1 = .ok (.istore_n 3, 1) by decide +kernel), List.forall_mem_cons.mpr ⟨
  s_aload_n (k := 0) (show decode (cod 73) 2 = .ok (.aload_n 0, 1) by decide +kernel), List.forall_mem_cons.mpr ⟨
  s_alen (show decode (cod 73) 3 = .ok (.arraylength, 1) by decide +kernel), List.forall_mem_cons.mpr ⟨
  s_istore (k := 4) (show decode (cod 73) 4 = .ok (.istore 4, 2) by decide +kernel), List.forall_mem_cons.mpr ⟨
  s_iload_n (k := 3) (show decode (cod 73) 6 = .ok (.iload_n 3, 1) by decide +kernel), List.forall_mem_cons.mpr ⟨
  s_iload (k := 4) (show decode (cod 73) 7 = .ok (.iload 4, 2) by decide +kernel), List.forall_mem_cons.mpr ⟨
  s_icmpge (show decode (cod 73) 9 = .ok (.if_icmp .ge 13, 3) by decide +kernel) (by decide), List.forall_mem_cons.mpr ⟨
  s_aload_n (k := 0) (show decode (cod 73) 12 = .ok (.aload_n 0, 1) by decide +kernel), List.forall_mem_cons.mpr ⟨
  s_iload_n (k := 3) (show decode (cod 73) 13 = .ok (.iload_n 3, 1) by decide +kernel), List.forall_mem_cons.mpr ⟨
  s_lload_n (k := 1) (show decode (cod 73) 14 = .ok (.lload_n 1, 1) by decide +kernel), List.forall_mem_cons.mpr ⟨
  s_lastore (show decode (cod 73) 15 = .ok (.lastore, 1) by decide +kernel), List.forall_mem_cons.mpr ⟨
  s_iinc (show decode (cod 73) 16 = .ok (.iinc 3 1, 3) by decide +kernel) rfl, List.forall_mem_cons.mpr ⟨
  s_goto (show decode (cod 73) 19 = .ok (.goto (-13), 3) by decide +kernel) (by decide), List.forall_mem_cons.mpr ⟨
  s_ret (show decode (cod 73) 22 = .ok (.return_, 1) by decide +kernel) rV_ok (fun h => by cases h), fun _ h => by cases h⟩⟩⟩⟩⟩⟩⟩⟩⟩⟩⟩⟩⟩⟩⟩
set_option maxRecDepth 100000 in
theorem si73 (X : CX) (l : Launch) : ∀ q ∈ pt73, SI X l 73 q.1 q.2 :=  si73_0 X l
set_option maxRecDepth 100000 in
set_option maxHeartbeats 4000000 in
theorem si74_0 (X : CX) (l : Launch) : ∀ q ∈ ([(0, iP 1 (fAld 1)), (1, iP 2 (fIld 2)), (2, iP 3 fDup2), (3, iRJ 4 qAJ), (4, iP 5 (fJld 3)), (5, iP 6 (f2J (fun x y => x + y))), (6, iW 7 wAJ), (7, iP 8 (fAld 1)), (8, iP 9 (fIld 2)), (9, iRJ 10 qAJ), (10, iP 13 (fK (.inr (.inl 8640000000)))), (13, iP 14 fLcmp), (14, iB 17 27 (b1 (fun x => decide (0 < x)))), (17, iP 18 (fAld 1)), (18, iP 19 (fIld 2)), (19, iRJ 20 qAJ), (20, iP 23 (fK (.inr (.inl (-8640000000))))), (23, iP 24 fLcmp), (24, iB 27 32 (b1 (fun x => decide (0 ≤ x)))), (27, iP 28 (fAld 0)), (28, iP 29 (fK (.inl 1))), (29, iW 32 (ptZ 20)), (32, iRet rV)] : List (Nat × AS)), SI X l 74 q.1 q.2 := List.forall_mem_cons.mpr ⟨
  s_aload_n (k := 1) (show decode (cod 74) 0 = .ok (.aload_n 1, 1) by decide +kernel), List.forall_mem_cons.mpr ⟨
  s_iload_n (k := 2) (show decode (cod 74) 1 = .ok (.iload_n 2, 1) by decide +kernel), List.forall_mem_cons.mpr ⟨
  s_dup2 (show decode (cod 74) 2 = .ok (.dup2, 1) by decide +kernel), List.forall_mem_cons.mpr ⟨
  s_laload (show decode (cod 74) 3 = .ok (.laload, 1) by decide +kernel), List.forall_mem_cons.mpr ⟨
  s_lload_n (k := 3) (show decode (cod 74) 4 = .ok (.lload_n 3, 1) by decide +kernel), List.forall_mem_cons.mpr ⟨
  s_ladd (show decode (cod 74) 5 = .ok (.ladd, 1) by decide +kernel), List.forall_mem_cons.mpr ⟨
  s_lastore (show decode (cod 74) 6 = .ok (.lastore, 1) by decide +kernel), List.forall_mem_cons.mpr ⟨
  s_aload_n (k := 1) (show decode (cod 74) 7 = .ok (.aload_n 1, 1) by decide +kernel), List.forall_mem_cons.mpr ⟨
  s_iload_n (k := 2) (show decode (cod 74) 8 = .ok (.iload_n 2, 1) by decide +kernel), List.forall_mem_cons.mpr ⟨
  s_laload (show decode (cod 74) 9 = .ok (.laload, 1) by decide +kernel), List.forall_mem_cons.mpr ⟨
  s_ldc2 (show decode (cod 74) 10 = .ok (.ldc2_w 105, 3) by decide +kernel) wd_405, List.forall_mem_cons.mpr ⟨
  s_lcmp (show decode (cod 74) 13 = .ok (.lcmp, 1) by decide +kernel), List.forall_mem_cons.mpr ⟨
  s_ifgt (show decode (cod 74) 14 = .ok (.ifCond .gt 13, 3) by decide +kernel) (by decide), List.forall_mem_cons.mpr ⟨
  s_aload_n (k := 1) (show decode (cod 74) 17 = .ok (.aload_n 1, 1) by decide +kernel), List.forall_mem_cons.mpr ⟨
  s_iload_n (k := 2) (show decode (cod 74) 18 = .ok (.iload_n 2, 1) by decide +kernel), List.forall_mem_cons.mpr ⟨
  s_laload (show decode (cod 74) 19 = .ok (.laload, 1) by decide +kernel), List.forall_mem_cons.mpr ⟨
  s_ldc2 (show decode (cod 74) 20 = .ok (.ldc2_w 107, 3) by decide +kernel) wd_406, List.forall_mem_cons.mpr ⟨
  s_lcmp (show decode (cod 74) 23 = .ok (.lcmp, 1) by decide +kernel), List.forall_mem_cons.mpr ⟨
  s_ifge (show decode (cod 74) 24 = .ok (.ifCond .ge 8, 3) by decide +kernel) (by decide), List.forall_mem_cons.mpr ⟨
  s_aload_n (k := 0) (show decode (cod 74) 27 = .ok (.aload_n 0, 1) by decide +kernel), List.forall_mem_cons.mpr ⟨
  s_iconst (show decode (cod 74) 28 = .ok (.iconst 1, 1) by decide +kernel) rfl, List.forall_mem_cons.mpr ⟨
  s_putZ (show decode (cod 74) 29 = .ok (.putfield 37, 3) by decide +kernel) wd_50 (Or.inl rfl) (Or.inl rfl) rfl, List.forall_mem_cons.mpr ⟨
  s_ret (show decode (cod 74) 32 = .ok (.return_, 1) by decide +kernel) rV_ok (fun h => by cases h), fun _ h => by cases h⟩⟩⟩⟩⟩⟩⟩⟩⟩⟩⟩⟩⟩⟩⟩⟩⟩⟩⟩⟩⟩⟩⟩
set_option maxRecDepth 100000 in
theorem si74 (X : CX) (l : Launch) : ∀ q ∈ pt74, SI X l 74 q.1 q.2 :=  si74_0 X l
set_option maxRecDepth 100000 in
set_option maxHeartbeats 4000000 in
theorem si75_0 (X : CX) (l : Launch) : ∀ q ∈ ([(0, iP 1 (fAld 1)), (1, iRR 4 (gtR 6)), (4, iRR 7 (gtR 28)), (7, iP 8 (fAld 0)), (8, iRI 11 (gtI 19)), (11, iRI 12 qAI), (12, iP 13 (fK (.inl 1))), (13, iB 16 22 (b2 (fun x y => decide (x = y)))), (16, iP 17 (fAld 0)), (17, iP 18 (fK (.inl 1))), (18, iW 21 (ptZ 20)), (21, iRet rV), (22, iP 23 (fAld 1)), (23, iRR 26 (gtR 6)), (26, iRR 29 (gtR 27)), (29, iP 30 (fAld 0)), (30, iRI 33 (gtI 19)), (33, iRR 34 qAR), (34, iP 35 (fAst 2)), (35, iP 36 (fAld 2)), (36, iC 39 76 3 1 1), (39, iP 40 (fIst 3)), (40, iP 41 (fAld 0)), (41, iRR 44 (gtR 17)), (44, iP 45 (fK (.inr (.inl 0)))), (45, iC 48 73 5 2 0), (48, iP 49 (fIld 3)), (49, iP 51 (fIst 4)), (51, iP 53 (fIld 4)), (53, iB 56 136 (b1 (fun x => decide (x < 0)))), (56, iP 57 (fAld 0)), (57, iRR 60 (gtR 14)), (60, iP 61 (fAld 0)), (61, iRR 64 (gtR 17)), (64, iP 65 (fIld 3)), (65, iP 67 (fIld 4)), (67, iP 68 (f2I (fun x y => x - y))), (68, iP 69 (fK (.inl 1))), (69, iP 70 (f2I (fun x y => x - y))), (70, iC 73 79 1 1 1)] : List (Nat × AS)), SI X l 75 q.1 q.2 := List.forall_mem_cons.mpr ⟨
  s_aload_n (k := 1) (show decode (cod 75) 0 = .ok (.aload_n 1, 1) by decide +kernel), List.forall_mem_cons.mpr ⟨
  s_getR (show decode (cod 75) 1 = .ok (.getfield 175, 3) by decide +kernel) wd_407 (Or.inl rfl) rfl, List.forall_mem_cons.mpr ⟨
  s_getR (show decode (cod 75) 4 = .ok (.getfield 87, 3) by decide +kernel) wd_395 (Or.inl rfl) rfl, List.forall_mem_cons.mpr ⟨
  s_aload_n (k := 0) (show decode (cod 75) 7 = .ok (.aload_n 0, 1) by decide +kernel), List.forall_mem_cons.mpr ⟨
  s_getI (show decode (cod 75) 8 = .ok (.getfield 34, 3) by decide +kernel) wd_49 (Or.inl rfl) (Or.inl rfl), List.forall_mem_cons.mpr ⟨
  s_iaload (show decode (cod 75) 11 = .ok (.iaload, 1) by decide +kernel), List.forall_mem_cons.mpr ⟨
  s_iconst (show decode (cod 75) 12 = .ok (.iconst 1, 1) by decide +kernel) rfl, List.forall_mem_cons.mpr ⟨
  s_icmpeq (show decode (cod 75) 13 = .ok (.if_icmp .eq 9, 3) by decide +kernel) (by decide), List.forall_mem_cons.mpr ⟨
  s_aload_n (k := 0) (show decode (cod 75) 16 = .ok (.aload_n 0, 1) by decide +kernel), List.forall_mem_cons.mpr ⟨
  s_iconst (show decode (cod 75) 17 = .ok (.iconst 1, 1) by decide +kernel) rfl, List.forall_mem_cons.mpr ⟨
  s_putZ (show decode (cod 75) 18 = .ok (.putfield 37, 3) by decide +kernel) wd_50 (Or.inl rfl) (Or.inl rfl) rfl, List.forall_mem_cons.mpr ⟨
  s_ret (show decode (cod 75) 21 = .ok (.return_, 1) by decide +kernel) rV_ok (fun h => by cases h), List.forall_mem_cons.mpr ⟨
  s_aload_n (k := 1) (show decode (cod 75) 22 = .ok (.aload_n 1, 1) by decide +kernel), List.forall_mem_cons.mpr ⟨
  s_getR (show decode (cod 75) 23 = .ok (.getfield 175, 3) by decide +kernel) wd_407 (Or.inl rfl) rfl, List.forall_mem_cons.mpr ⟨
  s_getR (show decode (cod 75) 26 = .ok (.getfield 92, 3) by decide +kernel) wd_397 (Or.inl rfl) rfl, List.forall_mem_cons.mpr ⟨
  s_aload_n (k := 0) (show decode (cod 75) 29 = .ok (.aload_n 0, 1) by decide +kernel), List.forall_mem_cons.mpr ⟨
  s_getI (show decode (cod 75) 30 = .ok (.getfield 34, 3) by decide +kernel) wd_49 (Or.inl rfl) (Or.inl rfl), List.forall_mem_cons.mpr ⟨
  s_aaload (show decode (cod 75) 33 = .ok (.aaload, 1) by decide +kernel), List.forall_mem_cons.mpr ⟨
  s_astore_n (k := 2) (show decode (cod 75) 34 = .ok (.astore_n 2, 1) by decide +kernel), List.forall_mem_cons.mpr ⟨
  s_aload_n (k := 2) (show decode (cod 75) 35 = .ok (.aload_n 2, 1) by decide +kernel), List.forall_mem_cons.mpr ⟨
  s_invS (show decode (cod 75) 36 = .ok (.invokestatic 179, 3) by decide +kernel) rfl cld_75_76 wd_409 wd_410, List.forall_mem_cons.mpr ⟨
  s_istore_n (k := 3) (show decode (cod 75) 39 = .ok (.istore_n 3, 1) by decide +kernel), List.forall_mem_cons.mpr ⟨
  s_aload_n (k := 0) (show decode (cod 75) 40 = .ok (.aload_n 0, 1) by decide +kernel), List.forall_mem_cons.mpr ⟨
  s_getR (show decode (cod 75) 41 = .ok (.getfield 27, 3) by decide +kernel) wd_47 (Or.inl rfl) rfl, List.forall_mem_cons.mpr ⟨
  s_lconst (show decode (cod 75) 44 = .ok (.lconst 0, 1) by decide +kernel) rfl, List.forall_mem_cons.mpr ⟨
  s_invS (show decode (cod 75) 45 = .ok (.invokestatic 99, 3) by decide +kernel) rfl cld_75_73 wd_403 wd_404, List.forall_mem_cons.mpr ⟨
  s_iload_n (k := 3) (show decode (cod 75) 48 = .ok (.iload_n 3, 1) by decide +kernel), List.forall_mem_cons.mpr ⟨
  s_istore (k := 4) (show decode (cod 75) 49 = .ok (.istore 4, 2) by decide +kernel), List.forall_mem_cons.mpr ⟨
  s_iload (k := 4) (show decode (cod 75) 51 = .ok (.iload 4, 2) by decide +kernel), List.forall_mem_cons.mpr ⟨
  s_iflt (show decode (cod 75) 53 = .ok (.ifCond .lt 83, 3) by decide +kernel) (by decide), List.forall_mem_cons.mpr ⟨
  s_aload_n (k := 0) (show decode (cod 75) 56 = .ok (.aload_n 0, 1) by decide +kernel), List.forall_mem_cons.mpr ⟨
  s_getR (show decode (cod 75) 57 = .ok (.getfield 12, 3) by decide +kernel) wd_42 (Or.inl rfl) rfl, List.forall_mem_cons.mpr ⟨
  s_aload_n (k := 0) (show decode (cod 75) 60 = .ok (.aload_n 0, 1) by decide +kernel), List.forall_mem_cons.mpr ⟨
  s_getR (show decode (cod 75) 61 = .ok (.getfield 27, 3) by decide +kernel) wd_47 (Or.inl rfl) rfl, List.forall_mem_cons.mpr ⟨
  s_iload_n (k := 3) (show decode (cod 75) 64 = .ok (.iload_n 3, 1) by decide +kernel), List.forall_mem_cons.mpr ⟨
  s_iload (k := 4) (show decode (cod 75) 65 = .ok (.iload 4, 2) by decide +kernel), List.forall_mem_cons.mpr ⟨
  s_isub (show decode (cod 75) 67 = .ok (.isub, 1) by decide +kernel), List.forall_mem_cons.mpr ⟨
  s_iconst (show decode (cod 75) 68 = .ok (.iconst 1, 1) by decide +kernel) rfl, List.forall_mem_cons.mpr ⟨
  s_isub (show decode (cod 75) 69 = .ok (.isub, 1) by decide +kernel), List.forall_mem_cons.mpr ⟨
  s_invS (show decode (cod 75) 70 = .ok (.invokestatic 140, 3) by decide +kernel) rfl cld_75_79 wd_412 wd_413, fun _ h => by cases h⟩⟩⟩⟩⟩⟩⟩⟩⟩⟩⟩⟩⟩⟩⟩⟩⟩⟩⟩⟩⟩⟩⟩⟩⟩⟩⟩⟩⟩⟩⟩⟩⟩⟩⟩⟩⟩⟩⟩⟩
set_option maxRecDepth 100000 in
set_option maxHeartbeats 4000000 in
theorem si75_1 (X : CX) (l : Launch) : ∀ q ∈ ([(73, iP 74 (fAld 1)), (74, iRR 77 (gtR 0)), (77, iP 78 (fAld 1)), (78, iRI 81 (gtI 3)), (81, iCK 84 5 80 11 5 0), (84, iP 85 (fAld 0)), (85, iP 86 (fAld 2)), (86, iP 88 (fIld 4)), (88, iP 89 (fIld 3)), (89, iP 91 (fIld 4)), (91, iP 92 (f2I (fun x y => x - y))), (92, iP 93 (fAld 1)), (93, iCK 96 6 81 6 5 0), (96, iP 97 (fK (.inl 0))), (97, iP 99 (fIst 5)), (99, iP 101 (fIld 5)), (101, iP 104 (fK (.inl 252))), (104, iB 107 130 (b2 (fun x y => decide (y ≤ x)))), (107, iP 108 (fAld 0)), (108, iRR 111 (gtR 17)), (111, iP 113 (fIld 5)), (113, iP 114 fDup2), (114, iRJ 115 qAJ), (115, iP 116 (fAld 0)), (116, iRR 119 (gtR 18)), (119, iP 121 (fIld 5)), (121, iRJ 122 qAJ), (122, iP 123 (f2J (fun x y => x + y))), (123, iW 124 wAJ), (124, iP 127 (fInc 5 1)), (127, iP 99 fGo), (130, iP 133 (fInc 4 (-1))), (133, iP 51 fGo), (136, iP 137 (fAld 0)), (137, iRR 140 (gtR 17)), (140, iP 141 (fK (.inl 0))), (141, iP 142 fDup2), (142, iRJ 143 qAJ), (143, iP 146 (fK (.inr (.inl 8640)))), (146, iP 147 (f2J (fun x y => x + y)))] : List (Nat × AS)), SI X l 75 q.1 q.2 := List.forall_mem_cons.mpr ⟨
  s_aload_n (k := 1) (show decode (cod 75) 73 = .ok (.aload_n 1, 1) by decide +kernel), List.forall_mem_cons.mpr ⟨
  s_getR (show decode (cod 75) 74 = .ok (.getfield 182, 3) by decide +kernel) wd_414 (Or.inr wd_415) rfl, List.forall_mem_cons.mpr ⟨
  s_aload_n (k := 1) (show decode (cod 75) 77 = .ok (.aload_n 1, 1) by decide +kernel), List.forall_mem_cons.mpr ⟨
  s_getI (show decode (cod 75) 78 = .ok (.getfield 183, 3) by decide +kernel) wd_416 (Or.inr wd_417) (Or.inl rfl), List.forall_mem_cons.mpr ⟨
  s_invK rfl (rcv_virt (show decode (cod 75) 81 = .ok (.invokevirtual 166, 3) by decide +kernel) cld_75_80 ⟨4, _, _, rfl, by decide, rfl⟩ wd_419 wd_420 wd_421), List.forall_mem_cons.mpr ⟨
  s_aload_n (k := 0) (show decode (cod 75) 84 = .ok (.aload_n 0, 1) by decide +kernel), List.forall_mem_cons.mpr ⟨
  s_aload_n (k := 2) (show decode (cod 75) 85 = .ok (.aload_n 2, 1) by decide +kernel), List.forall_mem_cons.mpr ⟨
  s_iload (k := 4) (show decode (cod 75) 86 = .ok (.iload 4, 2) by decide +kernel), List.forall_mem_cons.mpr ⟨
  s_iload_n (k := 3) (show decode (cod 75) 88 = .ok (.iload_n 3, 1) by decide +kernel), List.forall_mem_cons.mpr ⟨
  s_iload (k := 4) (show decode (cod 75) 89 = .ok (.iload 4, 2) by decide +kernel), List.forall_mem_cons.mpr ⟨
  s_isub (show decode (cod 75) 91 = .ok (.isub, 1) by decide +kernel), List.forall_mem_cons.mpr ⟨
  s_aload_n (k := 1) (show decode (cod 75) 92 = .ok (.aload_n 1, 1) by decide +kernel), List.forall_mem_cons.mpr ⟨
  s_invK rfl (rcv_virt (show decode (cod 75) 93 = .ok (.invokevirtual 184, 3) by decide +kernel) cld_75_81 ⟨5, _, _, rfl, by decide, rfl⟩ wd_423 wd_424 wd_425), List.forall_mem_cons.mpr ⟨
  s_iconst (show decode (cod 75) 96 = .ok (.iconst 0, 1) by decide +kernel) rfl, List.forall_mem_cons.mpr ⟨
  s_istore (k := 5) (show decode (cod 75) 97 = .ok (.istore 5, 2) by decide +kernel), List.forall_mem_cons.mpr ⟨
  s_iload (k := 5) (show decode (cod 75) 99 = .ok (.iload 5, 2) by decide +kernel), List.forall_mem_cons.mpr ⟨
  s_sipush (show decode (cod 75) 101 = .ok (.sipush 252, 3) by decide +kernel) rfl, List.forall_mem_cons.mpr ⟨
  s_icmpge (show decode (cod 75) 104 = .ok (.if_icmp .ge 26, 3) by decide +kernel) (by decide), List.forall_mem_cons.mpr ⟨
  s_aload_n (k := 0) (show decode (cod 75) 107 = .ok (.aload_n 0, 1) by decide +kernel), List.forall_mem_cons.mpr ⟨
  s_getR (show decode (cod 75) 108 = .ok (.getfield 27, 3) by decide +kernel) wd_47 (Or.inl rfl) rfl, List.forall_mem_cons.mpr ⟨
  s_iload (k := 5) (show decode (cod 75) 111 = .ok (.iload 5, 2) by decide +kernel), List.forall_mem_cons.mpr ⟨
  s_dup2 (show decode (cod 75) 113 = .ok (.dup2, 1) by decide +kernel), List.forall_mem_cons.mpr ⟨
  s_laload (show decode (cod 75) 114 = .ok (.laload, 1) by decide +kernel), List.forall_mem_cons.mpr ⟨
  s_aload_n (k := 0) (show decode (cod 75) 115 = .ok (.aload_n 0, 1) by decide +kernel), List.forall_mem_cons.mpr ⟨
  s_getR (show decode (cod 75) 116 = .ok (.getfield 31, 3) by decide +kernel) wd_48 (Or.inl rfl) rfl, List.forall_mem_cons.mpr ⟨
  s_iload (k := 5) (show decode (cod 75) 119 = .ok (.iload 5, 2) by decide +kernel), List.forall_mem_cons.mpr ⟨
  s_laload (show decode (cod 75) 121 = .ok (.laload, 1) by decide +kernel), List.forall_mem_cons.mpr ⟨
  s_ladd (show decode (cod 75) 122 = .ok (.ladd, 1) by decide +kernel), List.forall_mem_cons.mpr ⟨
  s_lastore (show decode (cod 75) 123 = .ok (.lastore, 1) by decide +kernel), List.forall_mem_cons.mpr ⟨
  s_iinc (show decode (cod 75) 124 = .ok (.iinc 5 1, 3) by decide +kernel) rfl, List.forall_mem_cons.mpr ⟨
  s_goto (show decode (cod 75) 127 = .ok (.goto (-28), 3) by decide +kernel) (by decide), List.forall_mem_cons.mpr ⟨
  s_iinc (show decode (cod 75) 130 = .ok (.iinc 4 (-1), 3) by decide +kernel) rfl, List.forall_mem_cons.mpr ⟨
  s_goto (show decode (cod 75) 133 = .ok (.goto (-82), 3) by decide +kernel) (by decide), List.forall_mem_cons.mpr ⟨
  s_aload_n (k := 0) (show decode (cod 75) 136 = .ok (.aload_n 0, 1) by decide +kernel), List.forall_mem_cons.mpr ⟨
  s_getR (show decode (cod 75) 137 = .ok (.getfield 27, 3) by decide +kernel) wd_47 (Or.inl rfl) rfl, List.forall_mem_cons.mpr ⟨
  s_iconst (show decode (cod 75) 140 = .ok (.iconst 0, 1) by decide +kernel) rfl, List.forall_mem_cons.mpr ⟨
  s_dup2 (show decode (cod 75) 141 = .ok (.dup2, 1) by decide +kernel), List.forall_mem_cons.mpr ⟨
  s_laload (show decode (cod 75) 142 = .ok (.laload, 1) by decide +kernel), List.forall_mem_cons.mpr ⟨
  s_ldc2 (show decode (cod 75) 143 = .ok (.ldc2_w 58, 3) by decide +kernel) wd_374, List.forall_mem_cons.mpr ⟨
  s_ladd (show decode (cod 75) 146 = .ok (.ladd, 1) by decide +kernel), fun _ h => by cases h⟩⟩⟩⟩⟩⟩⟩⟩⟩⟩⟩⟩⟩⟩⟩⟩⟩⟩⟩⟩⟩⟩⟩⟩⟩⟩⟩⟩⟩⟩⟩⟩⟩⟩⟩⟩⟩⟩⟩⟩
set_option maxRecDepth 100000 in
set_option maxHeartbeats 4000000 in
theorem si75_2 (X : CX) (l : Launch) : ∀ q ∈ ([(147, iW 148 wAJ), (148, iP 149 (fAld 0)), (149, iCK 152 6 82 4 1 0), (152, iRet rV)] : List (Nat × AS)), SI X l 75 q.1 q.2 := List.forall_mem_cons.mpr ⟨
  s_lastore (show decode (cod 75) 147 = .ok (.lastore, 1) by decide +kernel), List.forall_mem_cons.mpr ⟨
  s_aload_n (k := 0) (show decode (cod 75) 148 = .ok (.aload_n 0, 1) by decide +kernel), List.forall_mem_cons.mpr ⟨
  s_invK rfl (rcv_virt (show decode (cod 75) 149 = .ok (.invokevirtual 118, 3) by decide +kernel) cld_75_82 ⟨5, _, _, rfl, by decide, rfl⟩ wd_427 wd_428 wd_429), List.forall_mem_cons.mpr ⟨
  s_ret (show decode (cod 75) 152 = .ok (.return_, 1) by decide +kernel) rV_ok (fun h => by cases h), fun _ h => by cases h⟩⟩⟩⟩
set_option maxRecDepth 100000 in
theorem si75 (X : CX) (l : Launch) : ∀ q ∈ pt75, SI X l 75 q.1 q.2 := (List.forall_mem_append (l₁ := _) (l₂ := _)).mpr ⟨si75_0 X l, (List.forall_mem_append (l₁ := _) (l₂ := _)).mpr ⟨si75_1 X l, si75_2 X l⟩⟩
set_option maxRecDepth 100000 in
set_option maxHeartbeats 4000000 in
theorem si76_0 (X : CX) (l : Launch) : ∀ q ∈ ([(0, iP 1 (fK (.inl 0))), (1, iP 2 (fIst 1)), (2, iP 3 (fK (.inl 0))), (3, iP 4 (fIst 2)), (4, iP 5 (fIld 2)), (5, iP 7 (fK (.inl 36))), (7, iB 10 38 (b2 (fun x y => decide (y ≤ x)))), (10, iP 11 (fAld 0)), (11, iP 12 (fIld 2)), (12, iRJ 13 qAJ), (13, iP 14 (fK (.inr (.inl 0)))), (14, iP 15 fLcmp), (15, iB 18 32 (b1 (fun x => decide (x = 0)))), (18, iP 19 (fIld 1)), (19, iP 20 (fIld 2)), (20, iP 22 (fK (.inl 6))), (22, iRI 23 (q2I (fun x y => x / y))), (23, iP 24 (fIld 2)), (24, iP 26 (fK (.inl 6))), (26, iRI 27 (q2I (fun x y => x - x / y * y))), (27, iP 28 (f2I (fun x y => x + y))), (28, iP 31 (fM2 (fun x y => if x < y then y else x))), (31, iP 32 (fIst 1)), (32, iP 35 (fInc 2 1)), (35, iP 4 fGo), (38, iP 39 (fIld 1)), (39, iP 40 (fK (.inl 5))), (40, iP 43 (fM2 (fun x y => if y < x then y else x))), (43, iRet rI)] : List (Nat × AS)), SI X l 76 q.1 q.2 := List.forall_mem_cons.mpr ⟨
  s_iconst (show decode (cod 76) 0 = .ok (.iconst 0, 1) by decide +kernel) rfl, List.forall_mem_cons.mpr ⟨
  s_istore_n (k := 1) (show decode (cod 76) 1 = .ok (.istore_n 1, 1) by decide +kernel), List.forall_mem_cons.mpr ⟨
  s_iconst (show decode (cod 76) 2 = .ok (.iconst 0, 1) by decide +kernel) rfl, List.forall_mem_cons.mpr ⟨
  s_istore_n (k := 2) (show decode (cod 76) 3 = .ok (.istore_n 2, 1) by decide +kernel), List.forall_mem_cons.mpr ⟨
  s_iload_n (k := 2) (show decode (cod 76) 4 = .ok (.iload_n 2, 1) by decide +kernel), List.forall_mem_cons.mpr ⟨
  s_bipush (show decode (cod 76) 5 = .ok (.bipush 36, 2) by decide +kernel) rfl, List.forall_mem_cons.mpr ⟨
  s_icmpge (show decode (cod 76) 7 = .ok (.if_icmp .ge 31, 3) by decide +kernel) (by decide), List.forall_mem_cons.mpr ⟨
  s_aload_n (k := 0) (show decode (cod 76) 10 = .ok (.aload_n 0, 1) by decide +kernel), List.forall_mem_cons.mpr ⟨
  s_iload_n (k := 2) (show decode (cod 76) 11 = .ok (.iload_n 2, 1) by decide +kernel), List.forall_mem_cons.mpr ⟨
  s_laload (show decode (cod 76) 12 = .ok (.laload, 1) by decide +kernel), List.forall_mem_cons.mpr ⟨
  s_lconst (show decode (cod 76) 13 = .ok (.lconst 0, 1) by decide +kernel) rfl, List.forall_mem_cons.mpr ⟨
  s_lcmp (show decode (cod 76) 14 = .ok (.lcmp, 1) by decide +kernel), List.forall_mem_cons.mpr ⟨
  s_ifeq (show decode (cod 76) 15 = .ok (.ifCond .eq 17, 3) by decide +kernel) (by decide), List.forall_mem_cons.mpr ⟨
  s_iload_n (k := 1) (show decode (cod 76) 18 = .ok (.iload_n 1, 1) by decide +kernel), List.forall_mem_cons.mpr ⟨
  s_iload_n (k := 2) (show decode (cod 76) 19 = .ok (.iload_n 2, 1) by decide +kernel), List.forall_mem_cons.mpr ⟨
  s_bipush (show decode (cod 76) 20 = .ok (.bipush 6, 2) by decide +kernel) rfl, List.forall_mem_cons.mpr ⟨
  s_idiv (show decode (cod 76) 22 = .ok (.idiv, 1) by decide +kernel), List.forall_mem_cons.mpr ⟨
  s_iload_n (k := 2) (show decode (cod 76) 23 = .ok (.iload_n 2, 1) by decide +kernel), List.forall_mem_cons.mpr ⟨
  s_bipush (show decode (cod 76) 24 = .ok (.bipush 6, 2) by decide +kernel) rfl, List.forall_mem_cons.mpr ⟨
  s_irem (show decode (cod 76) 26 = .ok (.irem, 1) by decide +kernel), List.forall_mem_cons.mpr ⟨
  s_iadd (show decode (cod 76) 27 = .ok (.iadd, 1) by decide +kernel), List.forall_mem_cons.mpr ⟨
  s_mmax (show decode (cod 76) 28 = .ok (.invokestatic 191, 3) by decide +kernel) wd_430 wd_431 wd_432 wd_433 (by decide), List.forall_mem_cons.mpr ⟨
  s_istore_n (k := 1) (show decode (cod 76) 31 = .ok (.istore_n 1, 1) by decide +kernel), List.forall_mem_cons.mpr ⟨
  s_iinc (show decode (cod 76) 32 = .ok (.iinc 2 1, 3) by decide +kernel) rfl, List.forall_mem_cons.mpr ⟨
  s_goto (show decode (cod 76) 35 = .ok (.goto (-31), 3) by decide +kernel) (by decide), List.forall_mem_cons.mpr ⟨
  s_iload_n (k := 1) (show decode (cod 76) 38 = .ok (.iload_n 1, 1) by decide +kernel), List.forall_mem_cons.mpr ⟨
  s_iconst (show decode (cod 76) 39 = .ok (.iconst 5, 1) by decide +kernel) rfl, List.forall_mem_cons.mpr ⟨
  s_mmin (show decode (cod 76) 40 = .ok (.invokestatic 193, 3) by decide +kernel) wd_434 wd_435 wd_432 wd_436 (by decide), List.forall_mem_cons.mpr ⟨
  s_ret (show decode (cod 76) 43 = .ok (.ireturn, 1) by decide +kernel) rI_ok (fun h => by cases h), fun _ h => by cases h⟩⟩⟩⟩⟩⟩⟩⟩⟩⟩⟩⟩⟩⟩⟩⟩⟩⟩⟩⟩⟩⟩⟩⟩⟩⟩⟩⟩⟩
set_option maxRecDepth 100000 in
theorem si76 (X : CX) (l : Launch) : ∀ q ∈ pt76, SI X l 76 q.1 q.2 :=  si76_0 X l
set_option maxRecDepth 100000 in
set_option maxHeartbeats 4000000 in
theorem si79_0 (X : CX) (l : Launch) : ∀ q ∈ ([(0, iP 1 (fIld 0)), (1, iB 4 6 (b1 (fun x => decide (0 ≤ x)))), (4, iP 5 (fK (.inl 0))), (5, iRet rI), (6, iP 7 (fIld 0)), (7, iP 8 (fK (.inl 5))), (8, iB 11 19 (b2 (fun x y => decide (y ≤ x)))), (11, iP 14 (fK (.inr (.inr 2)))), (14, iP 15 (fIld 0)), (15, iRI 16 qAI), (16, iP 22 fGo), (19, iP 22 (fK (.inl 252))), (22, iRet rI)] : List (Nat × AS)), SI X l 79 q.1 q.2 := List.forall_mem_cons.mpr ⟨
  s_iload_n (k := 0) (show decode (cod 79) 0 = .ok (.iload_n 0, 1) by decide +kernel), List.forall_mem_cons.mpr ⟨
  s_ifge (show decode (cod 79) 1 = .ok (.ifCond .ge 5, 3) by decide +kernel) (by decide), List.forall_mem_cons.mpr ⟨
  s_iconst (show decode (cod 79) 4 = .ok (.iconst 0, 1) by decide +kernel) rfl, List.forall_mem_cons.mpr ⟨
  s_ret (show decode (cod 79) 5 = .ok (.ireturn, 1) by decide +kernel) rI_ok (fun h => by cases h), List.forall_mem_cons.mpr ⟨
  s_iload_n (k := 0) (show decode (cod 79) 6 = .ok (.iload_n 0, 1) by decide +kernel), List.forall_mem_cons.mpr ⟨
  s_iconst (show decode (cod 79) 7 = .ok (.iconst 5, 1) by decide +kernel) rfl, List.forall_mem_cons.mpr ⟨
  s_icmpge (show decode (cod 79) 8 = .ok (.if_icmp .ge 11, 3) by decide +kernel) (by decide), List.forall_mem_cons.mpr ⟨
  s_getst1 (show decode (cod 79) 11 = .ok (.getstatic 26, 3) by decide +kernel) wd_59, List.forall_mem_cons.mpr ⟨
  s_iload_n (k := 0) (show decode (cod 79) 14 = .ok (.iload_n 0, 1) by decide +kernel), List.forall_mem_cons.mpr ⟨
  s_iaload (show decode (cod 79) 15 = .ok (.iaload, 1) by decide +kernel), List.forall_mem_cons.mpr ⟨
  s_goto (show decode (cod 79) 16 = .ok (.goto 6, 3) by decide +kernel) (by decide), List.forall_mem_cons.mpr ⟨
  s_sipush (show decode (cod 79) 19 = .ok (.sipush 252, 3) by decide +kernel) rfl, List.forall_mem_cons.mpr ⟨
  s_ret (show decode (cod 79) 22 = .ok (.ireturn, 1) by decide +kernel) rI_ok (fun h => by cases h), fun _ h => by cases h⟩⟩⟩⟩⟩⟩⟩⟩⟩⟩⟩⟩⟩
set_option maxRecDepth 100000 in
theorem si79 (X : CX) (l : Launch) : ∀ q ∈ pt79, SI X l 79 q.1 q.2 :=  si79_0 X l
set_option maxRecDepth 100000 in
set_option maxHeartbeats 4000000 in
theorem si80_0 (X : CX) (l : Launch) : ∀ q ∈ ([(0, iP 1 (fK (.inl 2))), (1, iP 3 (fIld 4)), (3, iP 4 (f2I (fun x y => x + y))), (4, iP 6 (fIst 5)), (6, iP 7 (fIld 2)), (7, iP 10 (fK (.inl 252))), (10, iP 13 (fM2 (fun x y => if y < x then y else x))), (13, iP 14 (fK (.inl 1))), (14, iP 15 (f2I (fun x y => x - y))), (15, iP 17 (fIst 6)), (17, iP 19 (fIld 6)), (19, iB 22 109 (b1 (fun x => decide (x < 0)))), (22, iP 23 (fAld 1)), (23, iP 25 (fIld 6)), (25, iRJ 26 qAJ), (26, iP 28 (fLst 7)), (28, iP 30 (fJld 7)), (30, iP 31 (fK (.inr (.inl 0)))), (31, iP 32 fLcmp), (32, iB 35 103 (b1 (fun x => decide (x = 0)))), (35, iP 36 (fAld 1)), (36, iP 38 (fIld 6)), (38, iP 40 (fJld 7)), (40, iP 41 (fAld 3)), (41, iP 42 (fK (.inl 0))), (42, iRI 43 qAI), (43, iP 44 fI2l), (44, iP 45 (f2J (fun x y => x * y))), (45, iW 46 wAJ), (46, iP 47 (fK (.inl 0))), (47, iP 49 (fIst 9)), (49, iP 51 (fIld 9)), (51, iP 53 (fIld 5)), (53, iB 56 103 (b2 (fun x y => decide (y ≤ x)))), (56, iP 58 (fIld 9)), (58, iP 59 (fK (.inl 5))), (59, iB 62 103 (b2 (fun x y => decide (y ≤ x)))), (62, iP 63 (fAld 0)), (63, iRR 66 (gtR 12)), (66, iP 68 (fIld 9))] : List (Nat × AS)), SI X l 80 q.1 q.2 := List.forall_mem_cons.mpr ⟨
  s_iconst (show decode (cod 80) 0 = .ok (.iconst 2, 1) by decide +kernel) rfl, List.forall_mem_cons.mpr ⟨
  s_iload (k := 4) (show decode (cod 80) 1 = .ok (.iload 4, 2) by decide +kernel), List.forall_mem_cons.mpr ⟨
  s_iadd (show decode (cod 80) 3 = .ok (.iadd, 1) by decide +kernel), List.forall_mem_cons.mpr ⟨
  s_istore (k := 5) (show decode (cod 80) 4 = .ok (.istore 5, 2) by decide +kernel), List.forall_mem_cons.mpr ⟨
  s_iload_n (k := 2) (show decode (cod 80) 6 = .ok (.iload_n 2, 1) by decide +kernel), List.forall_mem_cons.mpr ⟨
  s_sipush (show decode (cod 80) 7 = .ok (.sipush 252, 3) by decide +kernel) rfl, List.forall_mem_cons.mpr ⟨
  s_mmin (show decode (cod 80) 10 = .ok (.invokestatic 40, 3) by decide +kernel) wd_437 wd_435 wd_432 wd_436 (by decide), List.forall_mem_cons.mpr ⟨
  s_iconst (show decode (cod 80) 13 = .ok (.iconst 1, 1) by decide +kernel) rfl, List.forall_mem_cons.mpr ⟨
  s_isub (show decode (cod 80) 14 = .ok (.isub, 1) by decide +kernel), List.forall_mem_cons.mpr ⟨
  s_istore (k := 6) (show decode (cod 80) 15 = .ok (.istore 6, 2) by decide +kernel), List.forall_mem_cons.mpr ⟨
  s_iload (k := 6) (show decode (cod 80) 17 = .ok (.iload 6, 2) by decide +kernel), List.forall_mem_cons.mpr ⟨
  s_iflt (show decode (cod 80) 19 = .ok (.ifCond .lt 90, 3) by decide +kernel) (by decide), List.forall_mem_cons.mpr ⟨
  s_aload_n (k := 1) (show decode (cod 80) 22 = .ok (.aload_n 1, 1) by decide +kernel), List.forall_mem_cons.mpr ⟨
  s_iload (k := 6) (show decode (cod 80) 23 = .ok (.iload 6, 2) by decide +kernel), List.forall_mem_cons.mpr ⟨
  s_laload (show decode (cod 80) 25 = .ok (.laload, 1) by decide +kernel), List.forall_mem_cons.mpr ⟨
  s_lstore (k := 7) (show decode (cod 80) 26 = .ok (.lstore 7, 2) by decide +kernel), List.forall_mem_cons.mpr ⟨
  s_lload (k := 7) (show decode (cod 80) 28 = .ok (.lload 7, 2) by decide +kernel), List.forall_mem_cons.mpr ⟨
  s_lconst (show decode (cod 80) 30 = .ok (.lconst 0, 1) by decide +kernel) rfl, List.forall_mem_cons.mpr ⟨
  s_lcmp (show decode (cod 80) 31 = .ok (.lcmp, 1) by decide +kernel), List.forall_mem_cons.mpr ⟨
  s_ifeq (show decode (cod 80) 32 = .ok (.ifCond .eq 71, 3) by decide +kernel) (by decide), List.forall_mem_cons.mpr ⟨
  s_aload_n (k := 1) (show decode (cod 80) 35 = .ok (.aload_n 1, 1) by decide +kernel), List.forall_mem_cons.mpr ⟨
  s_iload (k := 6) (show decode (cod 80) 36 = .ok (.iload 6, 2) by decide +kernel), List.forall_mem_cons.mpr ⟨
  s_lload (k := 7) (show decode (cod 80) 38 = .ok (.lload 7, 2) by decide +kernel), List.forall_mem_cons.mpr ⟨
  s_aload_n (k := 3) (show decode (cod 80) 40 = .ok (.aload_n 3, 1) by decide +kernel), List.forall_mem_cons.mpr ⟨
  s_iconst (show decode (cod 80) 41 = .ok (.iconst 0, 1) by decide +kernel) rfl, List.forall_mem_cons.mpr ⟨
  s_iaload (show decode (cod 80) 42 = .ok (.iaload, 1) by decide +kernel), List.forall_mem_cons.mpr ⟨
  s_i2l (show decode (cod 80) 43 = .ok (.i2l, 1) by decide +kernel), List.forall_mem_cons.mpr ⟨
  s_lmul (show decode (cod 80) 44 = .ok (.lmul, 1) by decide +kernel), List.forall_mem_cons.mpr ⟨
  s_lastore (show decode (cod 80) 45 = .ok (.lastore, 1) by decide +kernel), List.forall_mem_cons.mpr ⟨
  s_iconst (show decode (cod 80) 46 = .ok (.iconst 0, 1) by decide +kernel) rfl, List.forall_mem_cons.mpr ⟨
  s_istore (k := 9) (show decode (cod 80) 47 = .ok (.istore 9, 2) by decide +kernel), List.forall_mem_cons.mpr ⟨
  s_iload (k := 9) (show decode (cod 80) 49 = .ok (.iload 9, 2) by decide +kernel), List.forall_mem_cons.mpr ⟨
  s_iload (k := 5) (show decode (cod 80) 51 = .ok (.iload 5, 2) by decide +kernel), List.forall_mem_cons.mpr ⟨
  s_icmpge (show decode (cod 80) 53 = .ok (.if_icmp .ge 50, 3) by decide +kernel) (by decide), List.forall_mem_cons.mpr ⟨
  s_iload (k := 9) (show decode (cod 80) 56 = .ok (.iload 9, 2) by decide +kernel), List.forall_mem_cons.mpr ⟨
  s_iconst (show decode (cod 80) 58 = .ok (.iconst 5, 1) by decide +kernel) rfl, List.forall_mem_cons.mpr ⟨
  s_icmpge (show decode (cod 80) 59 = .ok (.if_icmp .ge 44, 3) by decide +kernel) (by decide), List.forall_mem_cons.mpr ⟨
  s_aload_n (k := 0) (show decode (cod 80) 62 = .ok (.aload_n 0, 1) by decide +kernel), List.forall_mem_cons.mpr ⟨
  s_getR (show decode (cod 80) 63 = .ok (.getfield 13, 3) by decide +kernel) wd_53 (Or.inl rfl) rfl, List.forall_mem_cons.mpr ⟨
  s_iload (k := 9) (show decode (cod 80) 66 = .ok (.iload 9, 2) by decide +kernel), fun _ h => by cases h⟩⟩⟩⟩⟩⟩⟩⟩⟩⟩⟩⟩⟩⟩⟩⟩⟩⟩⟩⟩⟩⟩⟩⟩⟩⟩⟩⟩⟩⟩⟩⟩⟩⟩⟩⟩⟩⟩⟩⟩
set_option maxRecDepth 100000 in
set_option maxHeartbeats 4000000 in
theorem si80_1 (X : CX) (l : Launch) : ∀ q ∈ ([(68, iRR 69 qAR), (69, iP 71 (fIld 6)), (71, iRI 72 qAI), (72, iP 74 (fIst 10)), (74, iP 76 (fIld 10)), (76, iP 77 (fK (.inl (-1)))), (77, iB 80 97 (b2 (fun x y => decide (x = y)))), (80, iP 81 (fAld 1)), (81, iP 83 (fIld 10)), (83, iP 84 fDup2), (84, iRJ 85 qAJ), (85, iP 87 (fJld 7)), (87, iP 88 (fAld 3)), (88, iP 89 (fK (.inl 1))), (89, iP 91 (fIld 9)), (91, iP 92 (f2I (fun x y => x + y))), (92, iRI 93 qAI), (93, iP 94 fI2l), (94, iP 95 (f2J (fun x y => x * y))), (95, iP 96 (f2J (fun x y => x + y))), (96, iW 97 wAJ), (97, iP 100 (fInc 9 1)), (100, iP 49 fGo), (103, iP 106 (fInc 6 (-1))), (106, iP 17 fGo), (109, iRet rV)] : List (Nat × AS)), SI X l 80 q.1 q.2 := List.forall_mem_cons.mpr ⟨
  s_aaload (show decode (cod 80) 68 = .ok (.aaload, 1) by decide +kernel), List.forall_mem_cons.mpr ⟨
  s_iload (k := 6) (show decode (cod 80) 69 = .ok (.iload 6, 2) by decide +kernel), List.forall_mem_cons.mpr ⟨
  s_iaload (show decode (cod 80) 71 = .ok (.iaload, 1) by decide +kernel), List.forall_mem_cons.mpr ⟨
  s_istore (k := 10) (show decode (cod 80) 72 = .ok (.istore 10, 2) by decide +kernel), List.forall_mem_cons.mpr ⟨
  s_iload (k := 10) (show decode (cod 80) 74 = .ok (.iload 10, 2) by decide +kernel), List.forall_mem_cons.mpr ⟨
  s_iconst (show decode (cod 80) 76 = .ok (.iconst (-1), 1) by decide +kernel) rfl, List.forall_mem_cons.mpr ⟨
  s_icmpeq (show decode (cod 80) 77 = .ok (.if_icmp .eq 20, 3) by decide +kernel) (by decide), List.forall_mem_cons.mpr ⟨
  s_aload_n (k := 1) (show decode (cod 80) 80 = .ok (.aload_n 1, 1) by decide +kernel), List.forall_mem_cons.mpr ⟨
  s_iload (k := 10) (show decode (cod 80) 81 = .ok (.iload 10, 2) by decide +kernel), List.forall_mem_cons.mpr ⟨
  s_dup2 (show decode (cod 80) 83 = .ok (.dup2, 1) by decide +kernel), List.forall_mem_cons.mpr ⟨
  s_laload (show decode (cod 80) 84 = .ok (.laload, 1) by decide +kernel), List.forall_mem_cons.mpr ⟨
  s_lload (k := 7) (show decode (cod 80) 85 = .ok (.lload 7, 2) by decide +kernel), List.forall_mem_cons.mpr ⟨
  s_aload_n (k := 3) (show decode (cod 80) 87 = .ok (.aload_n 3, 1) by decide +kernel), List.forall_mem_cons.mpr ⟨
  s_iconst (show decode (cod 80) 88 = .ok (.iconst 1, 1) by decide +kernel) rfl, List.forall_mem_cons.mpr ⟨
  s_iload (k := 9) (show decode (cod 80) 89 = .ok (.iload 9, 2) by decide +kernel), List.forall_mem_cons.mpr ⟨
  s_iadd (show decode (cod 80) 91 = .ok (.iadd, 1) by decide +kernel), List.forall_mem_cons.mpr ⟨
  s_iaload (show decode (cod 80) 92 = .ok (.iaload, 1) by decide +kernel), List.forall_mem_cons.mpr ⟨
  s_i2l (show decode (cod 80) 93 = .ok (.i2l, 1) by decide +kernel), List.forall_mem_cons.mpr ⟨
  s_lmul (show decode (cod 80) 94 = .ok (.lmul, 1) by decide +kernel), List.forall_mem_cons.mpr ⟨
  s_ladd (show decode (cod 80) 95 = .ok (.ladd, 1) by decide +kernel), List.forall_mem_cons.mpr ⟨
  s_lastore (show decode (cod 80) 96 = .ok (.lastore, 1) by decide +kernel), List.forall_mem_cons.mpr ⟨
  s_iinc (show decode (cod 80) 97 = .ok (.iinc 9 1, 3) by decide +kernel) rfl, List.forall_mem_cons.mpr ⟨
  s_goto (show decode (cod 80) 100 = .ok (.goto (-51), 3) by decide +kernel) (by decide), List.forall_mem_cons.mpr ⟨
  s_iinc (show decode (cod 80) 103 = .ok (.iinc 6 (-1), 3) by decide +kernel) rfl, List.forall_mem_cons.mpr ⟨
  s_goto (show decode (cod 80) 106 = .ok (.goto (-89), 3) by decide +kernel) (by decide), List.forall_mem_cons.mpr ⟨
  s_ret (show decode (cod 80) 109 = .ok (.return_, 1) by decide +kernel) rV_ok (fun h => by cases h), fun _ h => by cases h⟩⟩⟩⟩⟩⟩⟩⟩⟩⟩⟩⟩⟩⟩⟩⟩⟩⟩⟩⟩⟩⟩⟩⟩⟩⟩
set_option maxRecDepth 100000 in
theorem si80 (X : CX) (l : Launch) : ∀ q ∈ pt80, SI X l 80 q.1 q.2 := (List.forall_mem_append (l₁ := _) (l₂ := _)).mpr ⟨si80_0 X l, si80_1 X l⟩
set_option maxRecDepth 100000 in
set_option maxHeartbeats 4000000 in
theorem si81_0 (X : CX) (l : Launch) : ∀ q ∈ ([(0, iP 1 (fAld 0)), (1, iRR 4 (gtR 18)), (4, iP 5 (fK (.inr (.inl 0)))), (5, iC 8 73 5 2 0), (8, iP 9 (fIld 3)), (9, iP 11 (fIst 5)), (11, iP 13 (fIld 5)), (13, iB 16 70 (b1 (fun x => decide (x < 0)))), (16, iP 17 (fAld 0)), (17, iRR 20 (gtR 14)), (20, iP 21 (fAld 0)), (21, iRR 24 (gtR 18)), (24, iP 25 (fIld 3)), (25, iP 27 (fIld 5)), (27, iP 28 (f2I (fun x y => x - y))), (28, iP 29 (fK (.inl 1))), (29, iP 30 (f2I (fun x y => x - y))), (30, iC 33 79 1 1 1), (33, iP 35 (fAld 4)), (35, iRR 38 (gtR 5)), (38, iP 40 (fAld 4)), (40, iRI 43 (gtI 3)), (43, iCK 46 5 80 11 5 0), (46, iP 47 (fAld 0)), (47, iRR 50 (gtR 18)), (50, iP 51 (fK (.inl 0))), (51, iP 52 fDup2), (52, iRJ 53 qAJ), (53, iP 54 (fAld 1)), (54, iP 55 (fIld 2)), (55, iP 57 (fK (.inl 6))), (57, iP 58 (f2I (fun x y => x * y))), (58, iP 60 (fIld 5)), (60, iP 61 (f2I (fun x y => x + y))), (61, iRJ 62 qAJ), (62, iP 63 (f2J (fun x y => x + y))), (63, iW 64 wAJ), (64, iP 67 (fInc 5 (-1))), (67, iP 11 fGo), (70, iRet rV)] : List (Nat × AS)), SI X l 81 q.1 q.2 := List.forall_mem_cons.mpr ⟨
  s_aload_n (k := 0) (show decode (cod 81) 0 = .ok (.aload_n 0, 1) by decide +kernel), List.forall_mem_cons.mpr ⟨
  s_getR (show decode (cod 81) 1 = .ok (.getfield 31, 3) by decide +kernel) wd_48 (Or.inl rfl) rfl, List.forall_mem_cons.mpr ⟨
  s_lconst (show decode (cod 81) 4 = .ok (.lconst 0, 1) by decide +kernel) rfl, List.forall_mem_cons.mpr ⟨
  s_invS (show decode (cod 81) 5 = .ok (.invokestatic 99, 3) by decide +kernel) rfl cld_81_73 wd_403 wd_404, List.forall_mem_cons.mpr ⟨
  s_iload_n (k := 3) (show decode (cod 81) 8 = .ok (.iload_n 3, 1) by decide +kernel), List.forall_mem_cons.mpr ⟨
  s_istore (k := 5) (show decode (cod 81) 9 = .ok (.istore 5, 2) by decide +kernel), List.forall_mem_cons.mpr ⟨
  s_iload (k := 5) (show decode (cod 81) 11 = .ok (.iload 5, 2) by decide +kernel), List.forall_mem_cons.mpr ⟨
  s_iflt (show decode (cod 81) 13 = .ok (.ifCond .lt 57, 3) by decide +kernel) (by decide), List.forall_mem_cons.mpr ⟨
  s_aload_n (k := 0) (show decode (cod 81) 16 = .ok (.aload_n 0, 1) by decide +kernel), List.forall_mem_cons.mpr ⟨
  s_getR (show decode (cod 81) 17 = .ok (.getfield 12, 3) by decide +kernel) wd_42 (Or.inl rfl) rfl, List.forall_mem_cons.mpr ⟨
  s_aload_n (k := 0) (show decode (cod 81) 20 = .ok (.aload_n 0, 1) by decide +kernel), List.forall_mem_cons.mpr ⟨
  s_getR (show decode (cod 81) 21 = .ok (.getfield 31, 3) by decide +kernel) wd_48 (Or.inl rfl) rfl, List.forall_mem_cons.mpr ⟨
  s_iload_n (k := 3) (show decode (cod 81) 24 = .ok (.iload_n 3, 1) by decide +kernel), List.forall_mem_cons.mpr ⟨
  s_iload (k := 5) (show decode (cod 81) 25 = .ok (.iload 5, 2) by decide +kernel), List.forall_mem_cons.mpr ⟨
  s_isub (show decode (cod 81) 27 = .ok (.isub, 1) by decide +kernel), List.forall_mem_cons.mpr ⟨
  s_iconst (show decode (cod 81) 28 = .ok (.iconst 1, 1) by decide +kernel) rfl, List.forall_mem_cons.mpr ⟨
  s_isub (show decode (cod 81) 29 = .ok (.isub, 1) by decide +kernel), List.forall_mem_cons.mpr ⟨
  s_invS (show decode (cod 81) 30 = .ok (.invokestatic 140, 3) by decide +kernel) rfl cld_81_79 wd_412 wd_413, List.forall_mem_cons.mpr ⟨
  s_aload (k := 4) (show decode (cod 81) 33 = .ok (.aload 4, 2) by decide +kernel), List.forall_mem_cons.mpr ⟨
  s_getR (show decode (cod 81) 35 = .ok (.getfield 188, 3) by decide +kernel) wd_438 (Or.inl rfl) rfl, List.forall_mem_cons.mpr ⟨
  s_aload (k := 4) (show decode (cod 81) 38 = .ok (.aload 4, 2) by decide +kernel), List.forall_mem_cons.mpr ⟨
  s_getI (show decode (cod 81) 40 = .ok (.getfield 183, 3) by decide +kernel) wd_416 (Or.inr wd_417) (Or.inl rfl), List.forall_mem_cons.mpr ⟨
  s_invK rfl (rcv_virt (show decode (cod 81) 43 = .ok (.invokevirtual 166, 3) by decide +kernel) cld_81_80 ⟨4, _, _, rfl, by decide, rfl⟩ wd_419 wd_420 wd_421), List.forall_mem_cons.mpr ⟨
  s_aload_n (k := 0) (show decode (cod 81) 46 = .ok (.aload_n 0, 1) by decide +kernel), List.forall_mem_cons.mpr ⟨
  s_getR (show decode (cod 81) 47 = .ok (.getfield 31, 3) by decide +kernel) wd_48 (Or.inl rfl) rfl, List.forall_mem_cons.mpr ⟨
  s_iconst (show decode (cod 81) 50 = .ok (.iconst 0, 1) by decide +kernel) rfl, List.forall_mem_cons.mpr ⟨
  s_dup2 (show decode (cod 81) 51 = .ok (.dup2, 1) by decide +kernel), List.forall_mem_cons.mpr ⟨
  s_laload (show decode (cod 81) 52 = .ok (.laload, 1) by decide +kernel), List.forall_mem_cons.mpr ⟨
  s_aload_n (k := 1) (show decode (cod 81) 53 = .ok (.aload_n 1, 1) by decide +kernel), List.forall_mem_cons.mpr ⟨
  s_iload_n (k := 2) (show decode (cod 81) 54 = .ok (.iload_n 2, 1) by decide +kernel), List.forall_mem_cons.mpr ⟨
  s_bipush (show decode (cod 81) 55 = .ok (.bipush 6, 2) by decide +kernel) rfl, List.forall_mem_cons.mpr ⟨
  s_imul (show decode (cod 81) 57 = .ok (.imul, 1) by decide +kernel), List.forall_mem_cons.mpr ⟨
  s_iload (k := 5) (show decode (cod 81) 58 = .ok (.iload 5, 2) by decide +kernel), List.forall_mem_cons.mpr ⟨
  s_iadd (show decode (cod 81) 60 = .ok (.iadd, 1) by decide +kernel), List.forall_mem_cons.mpr ⟨
  s_laload (show decode (cod 81) 61 = .ok (.laload, 1) by decide +kernel), List.forall_mem_cons.mpr ⟨
  s_ladd (show decode (cod 81) 62 = .ok (.ladd, 1) by decide +kernel), List.forall_mem_cons.mpr ⟨
  s_lastore (show decode (cod 81) 63 = .ok (.lastore, 1) by decide +kernel), List.forall_mem_cons.mpr ⟨
  s_iinc (show decode (cod 81) 64 = .ok (.iinc 5 (-1), 3) by decide +kernel) rfl, List.forall_mem_cons.mpr ⟨
  s_goto (show decode (cod 81) 67 = .ok (.goto (-56), 3) by decide +kernel) (by decide), List.forall_mem_cons.mpr ⟨
  s_ret (show decode (cod 81) 70 = .ok (.return_, 1) by decide +kernel) rV_ok (fun h => by cases h), fun _ h => by cases h⟩⟩⟩⟩⟩⟩⟩⟩⟩⟩⟩⟩⟩⟩⟩⟩⟩⟩⟩⟩⟩⟩⟩⟩⟩⟩⟩⟩⟩⟩⟩⟩⟩⟩⟩⟩⟩⟩⟩⟩
set_option maxRecDepth 100000 in
theorem si81 (X : CX) (l : Launch) : ∀ q ∈ pt81, SI X l 81 q.1 q.2 :=  si81_0 X l
