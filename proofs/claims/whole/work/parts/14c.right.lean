set_option maxRecDepth 100000 in
set_option maxHeartbeats 4000000 in
theorem si82_0 (X : CX) (l : Launch) : ∀ q ∈ ([(0, iP 1 (fK (.inl 0))), (1, iP 2 (fIst 1)), (2, iP 3 (fIld 1)), (3, iP 6 (fK (.inl 252))), (6, iB 9 64 (b2 (fun x y => decide (y ≤ x)))), (9, iP 10 (fAld 0)), (10, iRR 13 (gtR 17)), (13, iP 14 (fIld 1)), (14, iRJ 15 qAJ), (15, iP 16 (fLst 2)), (16, iP 17 (fJld 2)), (17, iP 18 (fK (.inr (.inl 0)))), (18, iP 19 fLcmp), (19, iB 22 58 (b1 (fun x => decide (x = 0)))), (22, iP 23 (fJld 2)), (23, iP 26 (fK (.inr (.inl 8640000000)))), (26, iP 27 fLcmp), (27, iB 30 38 (b1 (fun x => decide (0 < x)))), (30, iP 31 (fJld 2)), (31, iP 34 (fK (.inr (.inl (-8640000000))))), (34, iP 35 fLcmp), (35, iB 38 43 (b1 (fun x => decide (0 ≤ x)))), (38, iP 39 (fAld 0)), (39, iP 40 (fK (.inl 1))), (40, iW 43 (ptZ 20)), (43, iP 44 (fAld 0)), (44, iP 45 (fAld 0)), (45, iRR 48 (gtR 15)), (48, iP 49 (fAld 0)), (49, iRI 52 (gtI 16)), (52, iRR 53 qAR), (53, iP 54 (fIld 1)), (54, iP 55 (fJld 2)), (55, iCK 58 6 74 5 4 0), (58, iP 61 (fInc 1 1)), (61, iP 2 fGo), (64, iRet rV)] : List (Nat × AS)), SI X l 82 q.1 q.2 := List.forall_mem_cons.mpr ⟨
  s_iconst (show decode (cod 82) 0 = .ok (.iconst 0, 1) by decide +kernel) rfl, List.forall_mem_cons.mpr ⟨
  s_istore_n (k := 1) (show decode (cod 82) 1 = .ok (.istore_n 1, 1) by decide +kernel), List.forall_mem_cons.mpr ⟨
  s_iload_n (k := 1) (show decode (cod 82) 2 = .ok (.iload_n 1, 1) by decide +kernel), List.forall_mem_cons.mpr ⟨
  s_sipush (show decode (cod 82) 3 = .ok (.sipush 252, 3) by decide +kernel) rfl, List.forall_mem_cons.mpr ⟨
  s_icmpge (show decode (cod 82) 6 = .ok (.if_icmp .ge 58, 3) by decide +kernel) (by decide), List.forall_mem_cons.mpr ⟨
  s_aload_n (k := 0) (show decode (cod 82) 9 = .ok (.aload_n 0, 1) by decide +kernel), List.forall_mem_cons.mpr ⟨
  s_getR (show decode (cod 82) 10 = .ok (.getfield 27, 3) by decide +kernel) wd_47 (Or.inl rfl) rfl, List.forall_mem_cons.mpr ⟨
  s_iload_n (k := 1) (show decode (cod 82) 13 = .ok (.iload_n 1, 1) by decide +kernel), List.forall_mem_cons.mpr ⟨
  s_laload (show decode (cod 82) 14 = .ok (.laload, 1) by decide +kernel), List.forall_mem_cons.mpr ⟨
  s_lstore_n (k := 2) (show decode (cod 82) 15 = .ok (.lstore_n 2, 1) by decide +kernel), List.forall_mem_cons.mpr ⟨
  s_lload_n (k := 2) (show decode (cod 82) 16 = .ok (.lload_n 2, 1) by decide +kernel), List.forall_mem_cons.mpr ⟨
  s_lconst (show decode (cod 82) 17 = .ok (.lconst 0, 1) by decide +kernel) rfl, List.forall_mem_cons.mpr ⟨
  s_lcmp (show decode (cod 82) 18 = .ok (.lcmp, 1) by decide +kernel), List.forall_mem_cons.mpr ⟨
  s_ifeq (show decode (cod 82) 19 = .ok (.ifCond .eq 39, 3) by decide +kernel) (by decide), List.forall_mem_cons.mpr ⟨
  s_lload_n (k := 2) (show decode (cod 82) 22 = .ok (.lload_n 2, 1) by decide +kernel), List.forall_mem_cons.mpr ⟨
  s_ldc2 (show decode (cod 82) 23 = .ok (.ldc2_w 105, 3) by decide +kernel) wd_405, List.forall_mem_cons.mpr ⟨
  s_lcmp (show decode (cod 82) 26 = .ok (.lcmp, 1) by decide +kernel), List.forall_mem_cons.mpr ⟨
  s_ifgt (show decode (cod 82) 27 = .ok (.ifCond .gt 11, 3) by decide +kernel) (by decide), List.forall_mem_cons.mpr ⟨
  s_lload_n (k := 2) (show decode (cod 82) 30 = .ok (.lload_n 2, 1) by decide +kernel), List.forall_mem_cons.mpr ⟨
  s_ldc2 (show decode (cod 82) 31 = .ok (.ldc2_w 107, 3) by decide +kernel) wd_406, List.forall_mem_cons.mpr ⟨
  s_lcmp (show decode (cod 82) 34 = .ok (.lcmp, 1) by decide +kernel), List.forall_mem_cons.mpr ⟨
  s_ifge (show decode (cod 82) 35 = .ok (.ifCond .ge 8, 3) by decide +kernel) (by decide), List.forall_mem_cons.mpr ⟨
  s_aload_n (k := 0) (show decode (cod 82) 38 = .ok (.aload_n 0, 1) by decide +kernel), List.forall_mem_cons.mpr ⟨
  s_iconst (show decode (cod 82) 39 = .ok (.iconst 1, 1) by decide +kernel) rfl, List.forall_mem_cons.mpr ⟨
  s_putZ (show decode (cod 82) 40 = .ok (.putfield 37, 3) by decide +kernel) wd_50 (Or.inl rfl) (Or.inl rfl) rfl, List.forall_mem_cons.mpr ⟨
  s_aload_n (k := 0) (show decode (cod 82) 43 = .ok (.aload_n 0, 1) by decide +kernel), List.forall_mem_cons.mpr ⟨
  s_aload_n (k := 0) (show decode (cod 82) 44 = .ok (.aload_n 0, 1) by decide +kernel), List.forall_mem_cons.mpr ⟨
  s_getR (show decode (cod 82) 45 = .ok (.getfield 20, 3) by decide +kernel) wd_45 (Or.inl rfl) rfl, List.forall_mem_cons.mpr ⟨
  s_aload_n (k := 0) (show decode (cod 82) 48 = .ok (.aload_n 0, 1) by decide +kernel), List.forall_mem_cons.mpr ⟨
  s_getI (show decode (cod 82) 49 = .ok (.getfield 23, 3) by decide +kernel) wd_46 (Or.inl rfl) (Or.inl rfl), List.forall_mem_cons.mpr ⟨
  s_aaload (show decode (cod 82) 52 = .ok (.aaload, 1) by decide +kernel), List.forall_mem_cons.mpr ⟨
  s_iload_n (k := 1) (show decode (cod 82) 53 = .ok (.iload_n 1, 1) by decide +kernel), List.forall_mem_cons.mpr ⟨
  s_lload_n (k := 2) (show decode (cod 82) 54 = .ok (.lload_n 2, 1) by decide +kernel), List.forall_mem_cons.mpr ⟨
  s_invK rfl (rcv_virt (show decode (cod 82) 55 = .ok (.invokevirtual 60, 3) by decide +kernel) cld_82_74 ⟨5, _, _, rfl, by decide, rfl⟩ wd_376 wd_377 wd_378), List.forall_mem_cons.mpr ⟨
  s_iinc (show decode (cod 82) 58 = .ok (.iinc 1 1, 3) by decide +kernel) rfl, List.forall_mem_cons.mpr ⟨
  s_goto (show decode (cod 82) 61 = .ok (.goto (-59), 3) by decide +kernel) (by decide), List.forall_mem_cons.mpr ⟨
  s_ret (show decode (cod 82) 64 = .ok (.return_, 1) by decide +kernel) rV_ok (fun h => by cases h), fun _ h => by cases h⟩⟩⟩⟩⟩⟩⟩⟩⟩⟩⟩⟩⟩⟩⟩⟩⟩⟩⟩⟩⟩⟩⟩⟩⟩⟩⟩⟩⟩⟩⟩⟩⟩⟩⟩⟩⟩
set_option maxRecDepth 100000 in
theorem si82 (X : CX) (l : Launch) : ∀ q ∈ pt82, SI X l 82 q.1 q.2 :=  si82_0 X l
set_option maxRecDepth 100000 in
set_option maxHeartbeats 4000000 in
theorem si83_0 (X : CX) (l : Launch) : ∀ q ∈ ([(0, iP 1 (fAld 0)), (1, iRI 4 (gtI 16)), (4, iP 5 (fK (.inl 2))), (5, iB 8 9 (b2 (fun x y => decide (y ≤ x)))), (8, iRet rV), (9, iP 10 (fAld 0)), (10, iRR 13 (gtR 15)), (13, iP 14 (fAld 0)), (14, iRI 17 (gtI 16)), (17, iP 18 (fK (.inl 1))), (18, iP 19 (f2I (fun x y => x - y))), (19, iRR 20 qAR), (20, iP 21 (fAst 1)), (21, iP 22 (fAld 0)), (22, iRR 25 (gtR 15)), (25, iP 26 (fAld 0)), (26, iRI 29 (gtI 16)), (29, iRR 30 qAR), (30, iP 31 (fAst 2)), (31, iP 32 (fAld 0)), (32, iP 33 fDup), (33, iRI 36 (gtI 16)), (36, iP 37 (fK (.inl 2))), (37, iP 38 (f2I (fun x y => x - y))), (38, iW 41 (ptI 16)), (41, iP 42 (fK (.inl 0))), (42, iP 43 (fIst 3)), (43, iP 44 (fIld 3)), (44, iP 47 (fK (.inl 252))), (47, iB 50 91 (b2 (fun x y => decide (y ≤ x)))), (50, iP 51 (fAld 0)), (51, iRR 54 (gtR 17)), (54, iP 55 (fIld 3)), (55, iP 56 (fAld 0)), (56, iRI 59 (gtI 19)), (59, iP 60 (fK (.inl 1))), (60, iB 63 75 (b2 (fun x y => decide (x ≠ y)))), (63, iP 64 (fAld 1)), (64, iP 65 (fIld 3)), (65, iRJ 66 qAJ)] : List (Nat × AS)), SI X l 83 q.1 q.2 := List.forall_mem_cons.mpr ⟨
  s_aload_n (k := 0) (show decode (cod 83) 0 = .ok (.aload_n 0, 1) by decide +kernel), List.forall_mem_cons.mpr ⟨
  s_getI (show decode (cod 83) 1 = .ok (.getfield 23, 3) by decide +kernel) wd_46 (Or.inl rfl) (Or.inl rfl), List.forall_mem_cons.mpr ⟨
  s_iconst (show decode (cod 83) 4 = .ok (.iconst 2, 1) by decide +kernel) rfl, List.forall_mem_cons.mpr ⟨
  s_icmpge (show decode (cod 83) 5 = .ok (.if_icmp .ge 4, 3) by decide +kernel) (by decide), List.forall_mem_cons.mpr ⟨
  s_ret (show decode (cod 83) 8 = .ok (.return_, 1) by decide +kernel) rV_ok (fun h => by cases h), List.forall_mem_cons.mpr ⟨
  s_aload_n (k := 0) (show decode (cod 83) 9 = .ok (.aload_n 0, 1) by decide +kernel), List.forall_mem_cons.mpr ⟨
  s_getR (show decode (cod 83) 10 = .ok (.getfield 20, 3) by decide +kernel) wd_45 (Or.inl rfl) rfl, List.forall_mem_cons.mpr ⟨
  s_aload_n (k := 0) (show decode (cod 83) 13 = .ok (.aload_n 0, 1) by decide +kernel), List.forall_mem_cons.mpr ⟨
  s_getI (show decode (cod 83) 14 = .ok (.getfield 23, 3) by decide +kernel) wd_46 (Or.inl rfl) (Or.inl rfl), List.forall_mem_cons.mpr ⟨
  s_iconst (show decode (cod 83) 17 = .ok (.iconst 1, 1) by decide +kernel) rfl, List.forall_mem_cons.mpr ⟨
  s_isub (show decode (cod 83) 18 = .ok (.isub, 1) by decide +kernel), List.forall_mem_cons.mpr ⟨
  s_aaload (show decode (cod 83) 19 = .ok (.aaload, 1) by decide +kernel), List.forall_mem_cons.mpr ⟨
  s_astore_n (k := 1) (show decode (cod 83) 20 = .ok (.astore_n 1, 1) by decide +kernel), List.forall_mem_cons.mpr ⟨
  s_aload_n (k := 0) (show decode (cod 83) 21 = .ok (.aload_n 0, 1) by decide +kernel), List.forall_mem_cons.mpr ⟨
  s_getR (show decode (cod 83) 22 = .ok (.getfield 20, 3) by decide +kernel) wd_45 (Or.inl rfl) rfl, List.forall_mem_cons.mpr ⟨
  s_aload_n (k := 0) (show decode (cod 83) 25 = .ok (.aload_n 0, 1) by decide +kernel), List.forall_mem_cons.mpr ⟨
  s_getI (show decode (cod 83) 26 = .ok (.getfield 23, 3) by decide +kernel) wd_46 (Or.inl rfl) (Or.inl rfl), List.forall_mem_cons.mpr ⟨
  s_aaload (show decode (cod 83) 29 = .ok (.aaload, 1) by decide +kernel), List.forall_mem_cons.mpr ⟨
  s_astore_n (k := 2) (show decode (cod 83) 30 = .ok (.astore_n 2, 1) by decide +kernel), List.forall_mem_cons.mpr ⟨
  s_aload_n (k := 0) (show decode (cod 83) 31 = .ok (.aload_n 0, 1) by decide +kernel), List.forall_mem_cons.mpr ⟨
  s_dup (show decode (cod 83) 32 = .ok (.dup, 1) by decide +kernel), List.forall_mem_cons.mpr ⟨
  s_getI (show decode (cod 83) 33 = .ok (.getfield 23, 3) by decide +kernel) wd_46 (Or.inl rfl) (Or.inl rfl), List.forall_mem_cons.mpr ⟨
  s_iconst (show decode (cod 83) 36 = .ok (.iconst 2, 1) by decide +kernel) rfl, List.forall_mem_cons.mpr ⟨
  s_isub (show decode (cod 83) 37 = .ok (.isub, 1) by decide +kernel), List.forall_mem_cons.mpr ⟨
  s_putI (show decode (cod 83) 38 = .ok (.putfield 23, 3) by decide +kernel) wd_46 (Or.inl rfl) (Or.inl rfl) rfl, List.forall_mem_cons.mpr ⟨
  s_iconst (show decode (cod 83) 41 = .ok (.iconst 0, 1) by decide +kernel) rfl, List.forall_mem_cons.mpr ⟨
  s_istore_n (k := 3) (show decode (cod 83) 42 = .ok (.istore_n 3, 1) by decide +kernel), List.forall_mem_cons.mpr ⟨
  s_iload_n (k := 3) (show decode (cod 83) 43 = .ok (.iload_n 3, 1) by decide +kernel), List.forall_mem_cons.mpr ⟨
  s_sipush (show decode (cod 83) 44 = .ok (.sipush 252, 3) by decide +kernel) rfl, List.forall_mem_cons.mpr ⟨
  s_icmpge (show decode (cod 83) 47 = .ok (.if_icmp .ge 44, 3) by decide +kernel) (by decide), List.forall_mem_cons.mpr ⟨
  s_aload_n (k := 0) (show decode (cod 83) 50 = .ok (.aload_n 0, 1) by decide +kernel), List.forall_mem_cons.mpr ⟨
  s_getR (show decode (cod 83) 51 = .ok (.getfield 27, 3) by decide +kernel) wd_47 (Or.inl rfl) rfl, List.forall_mem_cons.mpr ⟨
  s_iload_n (k := 3) (show decode (cod 83) 54 = .ok (.iload_n 3, 1) by decide +kernel), List.forall_mem_cons.mpr ⟨
  s_aload_n (k := 0) (show decode (cod 83) 55 = .ok (.aload_n 0, 1) by decide +kernel), List.forall_mem_cons.mpr ⟨
  s_getI (show decode (cod 83) 56 = .ok (.getfield 34, 3) by decide +kernel) wd_49 (Or.inl rfl) (Or.inl rfl), List.forall_mem_cons.mpr ⟨
  s_iconst (show decode (cod 83) 59 = .ok (.iconst 1, 1) by decide +kernel) rfl, List.forall_mem_cons.mpr ⟨
  s_icmpne (show decode (cod 83) 60 = .ok (.if_icmp .ne 15, 3) by decide +kernel) (by decide), List.forall_mem_cons.mpr ⟨
  s_aload_n (k := 1) (show decode (cod 83) 63 = .ok (.aload_n 1, 1) by decide +kernel), List.forall_mem_cons.mpr ⟨
  s_iload_n (k := 3) (show decode (cod 83) 64 = .ok (.iload_n 3, 1) by decide +kernel), List.forall_mem_cons.mpr ⟨
  s_laload (show decode (cod 83) 65 = .ok (.laload, 1) by decide +kernel), fun _ h => by cases h⟩⟩⟩⟩⟩⟩⟩⟩⟩⟩⟩⟩⟩⟩⟩⟩⟩⟩⟩⟩⟩⟩⟩⟩⟩⟩⟩⟩⟩⟩⟩⟩⟩⟩⟩⟩⟩⟩⟩⟩
set_option maxRecDepth 100000 in
set_option maxHeartbeats 4000000 in
theorem si83_1 (X : CX) (l : Launch) : ∀ q ∈ ([(66, iP 67 (fAld 2)), (67, iP 68 (fIld 3)), (68, iRJ 69 qAJ), (69, iP 72 (fMJ2 (fun x y => if y < x then x else y))), (72, iP 84 fGo), (75, iP 76 (fAld 1)), (76, iP 77 (fIld 3)), (77, iRJ 78 qAJ), (78, iP 79 (fAld 2)), (79, iP 80 (fIld 3)), (80, iRJ 81 qAJ), (81, iP 84 (fMJ2 (fun x y => if y < x then y else x))), (84, iW 85 wAJ), (85, iP 88 (fInc 3 1)), (88, iP 43 fGo), (91, iP 92 (fAld 0)), (92, iRR 95 (gtR 17)), (95, iP 96 (fK (.inl 0))), (96, iP 97 fDup2), (97, iRJ 98 qAJ), (98, iP 101 (fK (.inr (.inl 8640)))), (101, iP 102 (f2J (fun x y => x + y))), (102, iW 103 wAJ), (103, iP 104 (fAld 0)), (104, iCK 107 6 82 4 1 0), (107, iRet rV)] : List (Nat × AS)), SI X l 83 q.1 q.2 := List.forall_mem_cons.mpr ⟨
  s_aload_n (k := 2) (show decode (cod 83) 66 = .ok (.aload_n 2, 1) by decide +kernel), List.forall_mem_cons.mpr ⟨
  s_iload_n (k := 3) (show decode (cod 83) 67 = .ok (.iload_n 3, 1) by decide +kernel), List.forall_mem_cons.mpr ⟨
  s_laload (show decode (cod 83) 68 = .ok (.laload, 1) by decide +kernel), List.forall_mem_cons.mpr ⟨
  s_lmax (show decode (cod 83) 69 = .ok (.invokestatic 109, 3) by decide +kernel) wd_439 wd_440 wd_432 wd_441 (by decide), List.forall_mem_cons.mpr ⟨
  s_goto (show decode (cod 83) 72 = .ok (.goto 12, 3) by decide +kernel) (by decide), List.forall_mem_cons.mpr ⟨
  s_aload_n (k := 1) (show decode (cod 83) 75 = .ok (.aload_n 1, 1) by decide +kernel), List.forall_mem_cons.mpr ⟨
  s_iload_n (k := 3) (show decode (cod 83) 76 = .ok (.iload_n 3, 1) by decide +kernel), List.forall_mem_cons.mpr ⟨
  s_laload (show decode (cod 83) 77 = .ok (.laload, 1) by decide +kernel), List.forall_mem_cons.mpr ⟨
  s_aload_n (k := 2) (show decode (cod 83) 78 = .ok (.aload_n 2, 1) by decide +kernel), List.forall_mem_cons.mpr ⟨
  s_iload_n (k := 3) (show decode (cod 83) 79 = .ok (.iload_n 3, 1) by decide +kernel), List.forall_mem_cons.mpr ⟨
  s_laload (show decode (cod 83) 80 = .ok (.laload, 1) by decide +kernel), List.forall_mem_cons.mpr ⟨
  s_lmin (show decode (cod 83) 81 = .ok (.invokestatic 115, 3) by decide +kernel) wd_442 wd_443 wd_432 wd_444 (by decide), List.forall_mem_cons.mpr ⟨
  s_lastore (show decode (cod 83) 84 = .ok (.lastore, 1) by decide +kernel), List.forall_mem_cons.mpr ⟨
  s_iinc (show decode (cod 83) 85 = .ok (.iinc 3 1, 3) by decide +kernel) rfl, List.forall_mem_cons.mpr ⟨
  s_goto (show decode (cod 83) 88 = .ok (.goto (-45), 3) by decide +kernel) (by decide), List.forall_mem_cons.mpr ⟨
  s_aload_n (k := 0) (show decode (cod 83) 91 = .ok (.aload_n 0, 1) by decide +kernel), List.forall_mem_cons.mpr ⟨
  s_getR (show decode (cod 83) 92 = .ok (.getfield 27, 3) by decide +kernel) wd_47 (Or.inl rfl) rfl, List.forall_mem_cons.mpr ⟨
  s_iconst (show decode (cod 83) 95 = .ok (.iconst 0, 1) by decide +kernel) rfl, List.forall_mem_cons.mpr ⟨
  s_dup2 (show decode (cod 83) 96 = .ok (.dup2, 1) by decide +kernel), List.forall_mem_cons.mpr ⟨
  s_laload (show decode (cod 83) 97 = .ok (.laload, 1) by decide +kernel), List.forall_mem_cons.mpr ⟨
  s_ldc2 (show decode (cod 83) 98 = .ok (.ldc2_w 58, 3) by decide +kernel) wd_374, List.forall_mem_cons.mpr ⟨
  s_ladd (show decode (cod 83) 101 = .ok (.ladd, 1) by decide +kernel), List.forall_mem_cons.mpr ⟨
  s_lastore (show decode (cod 83) 102 = .ok (.lastore, 1) by decide +kernel), List.forall_mem_cons.mpr ⟨
  s_aload_n (k := 0) (show decode (cod 83) 103 = .ok (.aload_n 0, 1) by decide +kernel), List.forall_mem_cons.mpr ⟨
  s_invK rfl (rcv_virt (show decode (cod 83) 104 = .ok (.invokevirtual 118, 3) by decide +kernel) cld_83_82 ⟨5, _, _, rfl, by decide, rfl⟩ wd_427 wd_428 wd_429), List.forall_mem_cons.mpr ⟨
  s_ret (show decode (cod 83) 107 = .ok (.return_, 1) by decide +kernel) rV_ok (fun h => by cases h), fun _ h => by cases h⟩⟩⟩⟩⟩⟩⟩⟩⟩⟩⟩⟩⟩⟩⟩⟩⟩⟩⟩⟩⟩⟩⟩⟩⟩⟩
set_option maxRecDepth 100000 in
theorem si83 (X : CX) (l : Launch) : ∀ q ∈ pt83, SI X l 83 q.1 q.2 := (List.forall_mem_append (l₁ := _) (l₂ := _)).mpr ⟨si83_0 X l, si83_1 X l⟩
set_option maxRecDepth 100000 in
set_option maxHeartbeats 4000000 in
theorem si86_0 (X : CX) (l : Launch) : ∀ q ∈ ([(0, iP 1 (fAld 0)), (1, iRI 4 (gtI 16)), (4, iP 5 (fK (.inl 1))), (5, iB 8 9 (b2 (fun x y => decide (y ≤ x)))), (8, iRet rV), (9, iP 10 (fAld 0)), (10, iRR 13 (gtR 15)), (13, iP 14 (fAld 0)), (14, iRI 17 (gtI 16)), (17, iRR 18 qAR), (18, iP 19 (fAst 2)), (19, iP 20 (fAld 0)), (20, iP 21 fDup), (21, iRI 24 (gtI 16)), (24, iP 25 (fK (.inl 1))), (25, iP 26 (f2I (fun x y => x - y))), (26, iW 29 (ptI 16)), (29, iP 30 (fAld 2)), (30, iP 31 (fK (.inl 0))), (31, iP 32 fDup2), (32, iRJ 33 qAJ), (33, iP 36 (fK (.inr (.inl 8640)))), (36, iP 37 (f2J (fun x y => x + y))), (37, iW 38 wAJ), (38, iP 39 (fAld 2)), (39, iC 42 87 3 1 1), (42, iP 43 (fIst 3)), (43, iP 44 (fAld 0)), (44, iRR 47 (gtR 17)), (47, iP 48 (fK (.inr (.inl 0)))), (48, iC 51 73 5 2 0), (51, iP 52 (fAld 1)), (52, iCK 55 3 88 2 1 1), (55, iB 58 68 (b1 (fun x => decide (x = 0)))), (58, iP 59 (fAld 0)), (59, iP 60 (fAld 2)), (60, iP 61 (fIld 3)), (61, iP 62 (fAld 1)), (62, iCK 65 6 89 9 4 0), (65, iP 88 fGo)] : List (Nat × AS)), SI X l 86 q.1 q.2 := List.forall_mem_cons.mpr ⟨
  s_aload_n (k := 0) (show decode (cod 86) 0 = .ok (.aload_n 0, 1) by decide +kernel), List.forall_mem_cons.mpr ⟨
  s_getI (show decode (cod 86) 1 = .ok (.getfield 23, 3) by decide +kernel) wd_46 (Or.inl rfl) (Or.inl rfl), List.forall_mem_cons.mpr ⟨
  s_iconst (show decode (cod 86) 4 = .ok (.iconst 1, 1) by decide +kernel) rfl, List.forall_mem_cons.mpr ⟨
  s_icmpge (show decode (cod 86) 5 = .ok (.if_icmp .ge 4, 3) by decide +kernel) (by decide), List.forall_mem_cons.mpr ⟨
  s_ret (show decode (cod 86) 8 = .ok (.return_, 1) by decide +kernel) rV_ok (fun h => by cases h), List.forall_mem_cons.mpr ⟨
  s_aload_n (k := 0) (show decode (cod 86) 9 = .ok (.aload_n 0, 1) by decide +kernel), List.forall_mem_cons.mpr ⟨
  s_getR (show decode (cod 86) 10 = .ok (.getfield 20, 3) by decide +kernel) wd_45 (Or.inl rfl) rfl, List.forall_mem_cons.mpr ⟨
  s_aload_n (k := 0) (show decode (cod 86) 13 = .ok (.aload_n 0, 1) by decide +kernel), List.forall_mem_cons.mpr ⟨
  s_getI (show decode (cod 86) 14 = .ok (.getfield 23, 3) by decide +kernel) wd_46 (Or.inl rfl) (Or.inl rfl), List.forall_mem_cons.mpr ⟨
  s_aaload (show decode (cod 86) 17 = .ok (.aaload, 1) by decide +kernel), List.forall_mem_cons.mpr ⟨
  s_astore_n (k := 2) (show decode (cod 86) 18 = .ok (.astore_n 2, 1) by decide +kernel), List.forall_mem_cons.mpr ⟨
  s_aload_n (k := 0) (show decode (cod 86) 19 = .ok (.aload_n 0, 1) by decide +kernel), List.forall_mem_cons.mpr ⟨
  s_dup (show decode (cod 86) 20 = .ok (.dup, 1) by decide +kernel), List.forall_mem_cons.mpr ⟨
  s_getI (show decode (cod 86) 21 = .ok (.getfield 23, 3) by decide +kernel) wd_46 (Or.inl rfl) (Or.inl rfl), List.forall_mem_cons.mpr ⟨
  s_iconst (show decode (cod 86) 24 = .ok (.iconst 1, 1) by decide +kernel) rfl, List.forall_mem_cons.mpr ⟨
  s_isub (show decode (cod 86) 25 = .ok (.isub, 1) by decide +kernel), List.forall_mem_cons.mpr ⟨
  s_putI (show decode (cod 86) 26 = .ok (.putfield 23, 3) by decide +kernel) wd_46 (Or.inl rfl) (Or.inl rfl) rfl, List.forall_mem_cons.mpr ⟨
  s_aload_n (k := 2) (show decode (cod 86) 29 = .ok (.aload_n 2, 1) by decide +kernel), List.forall_mem_cons.mpr ⟨
  s_iconst (show decode (cod 86) 30 = .ok (.iconst 0, 1) by decide +kernel) rfl, List.forall_mem_cons.mpr ⟨
  s_dup2 (show decode (cod 86) 31 = .ok (.dup2, 1) by decide +kernel), List.forall_mem_cons.mpr ⟨
  s_laload (show decode (cod 86) 32 = .ok (.laload, 1) by decide +kernel), List.forall_mem_cons.mpr ⟨
  s_ldc2 (show decode (cod 86) 33 = .ok (.ldc2_w 58, 3) by decide +kernel) wd_374, List.forall_mem_cons.mpr ⟨
  s_ladd (show decode (cod 86) 36 = .ok (.ladd, 1) by decide +kernel), List.forall_mem_cons.mpr ⟨
  s_lastore (show decode (cod 86) 37 = .ok (.lastore, 1) by decide +kernel), List.forall_mem_cons.mpr ⟨
  s_aload_n (k := 2) (show decode (cod 86) 38 = .ok (.aload_n 2, 1) by decide +kernel), List.forall_mem_cons.mpr ⟨
  s_invS (show decode (cod 86) 39 = .ok (.invokestatic 121, 3) by decide +kernel) rfl cld_86_87 wd_446 wd_447, List.forall_mem_cons.mpr ⟨
  s_istore_n (k := 3) (show decode (cod 86) 42 = .ok (.istore_n 3, 1) by decide +kernel), List.forall_mem_cons.mpr ⟨
  s_aload_n (k := 0) (show decode (cod 86) 43 = .ok (.aload_n 0, 1) by decide +kernel), List.forall_mem_cons.mpr ⟨
  s_getR (show decode (cod 86) 44 = .ok (.getfield 27, 3) by decide +kernel) wd_47 (Or.inl rfl) rfl, List.forall_mem_cons.mpr ⟨
  s_lconst (show decode (cod 86) 47 = .ok (.lconst 0, 1) by decide +kernel) rfl, List.forall_mem_cons.mpr ⟨
  s_invS (show decode (cod 86) 48 = .ok (.invokestatic 99, 3) by decide +kernel) rfl cld_86_73 wd_403 wd_404, List.forall_mem_cons.mpr ⟨
  s_aload_n (k := 1) (show decode (cod 86) 51 = .ok (.aload_n 1, 1) by decide +kernel), List.forall_mem_cons.mpr ⟨
  s_invK rfl (rcv_virt (show decode (cod 86) 52 = .ok (.invokevirtual 125, 3) by decide +kernel) cld_86_88 ⟨2, _, _, rfl, by decide, rfl⟩ wd_449 wd_450 wd_451), List.forall_mem_cons.mpr ⟨
  s_ifeq (show decode (cod 86) 55 = .ok (.ifCond .eq 13, 3) by decide +kernel) (by decide), List.forall_mem_cons.mpr ⟨
  s_aload_n (k := 0) (show decode (cod 86) 58 = .ok (.aload_n 0, 1) by decide +kernel), List.forall_mem_cons.mpr ⟨
  s_aload_n (k := 2) (show decode (cod 86) 59 = .ok (.aload_n 2, 1) by decide +kernel), List.forall_mem_cons.mpr ⟨
  s_iload_n (k := 3) (show decode (cod 86) 60 = .ok (.iload_n 3, 1) by decide +kernel), List.forall_mem_cons.mpr ⟨
  s_aload_n (k := 1) (show decode (cod 86) 61 = .ok (.aload_n 1, 1) by decide +kernel), List.forall_mem_cons.mpr ⟨
  s_invK rfl (rcv_virt (show decode (cod 86) 62 = .ok (.invokevirtual 129, 3) by decide +kernel) cld_86_89 ⟨5, _, _, rfl, by decide, rfl⟩ wd_453 wd_454 wd_455), List.forall_mem_cons.mpr ⟨
  s_goto (show decode (cod 86) 65 = .ok (.goto 23, 3) by decide +kernel) (by decide), fun _ h => by cases h⟩⟩⟩⟩⟩⟩⟩⟩⟩⟩⟩⟩⟩⟩⟩⟩⟩⟩⟩⟩⟩⟩⟩⟩⟩⟩⟩⟩⟩⟩⟩⟩⟩⟩⟩⟩⟩⟩⟩⟩
set_option maxRecDepth 100000 in
set_option maxHeartbeats 4000000 in
theorem si86_1 (X : CX) (l : Launch) : ∀ q ∈ ([(68, iP 69 (fIld 3)), (69, iP 70 (fK (.inl 5))), (70, iB 73 81 (b2 (fun x y => decide (x ≠ y)))), (73, iP 74 (fAld 0)), (74, iP 75 (fK (.inl 1))), (75, iW 78 (ptZ 20)), (78, iP 88 fGo), (81, iP 82 (fAld 0)), (82, iP 83 (fAld 2)), (83, iP 84 (fIld 3)), (84, iP 85 (fAld 1)), (85, iCK 88 6 93 7 4 0), (88, iP 89 (fAld 0)), (89, iCK 92 6 82 4 1 0), (92, iRet rV)] : List (Nat × AS)), SI X l 86 q.1 q.2 := List.forall_mem_cons.mpr ⟨
  s_iload_n (k := 3) (show decode (cod 86) 68 = .ok (.iload_n 3, 1) by decide +kernel), List.forall_mem_cons.mpr ⟨
  s_iconst (show decode (cod 86) 69 = .ok (.iconst 5, 1) by decide +kernel) rfl, List.forall_mem_cons.mpr ⟨
  s_icmpne (show decode (cod 86) 70 = .ok (.if_icmp .ne 11, 3) by decide +kernel) (by decide), List.forall_mem_cons.mpr ⟨
  s_aload_n (k := 0) (show decode (cod 86) 73 = .ok (.aload_n 0, 1) by decide +kernel), List.forall_mem_cons.mpr ⟨
  s_iconst (show decode (cod 86) 74 = .ok (.iconst 1, 1) by decide +kernel) rfl, List.forall_mem_cons.mpr ⟨
  s_putZ (show decode (cod 86) 75 = .ok (.putfield 37, 3) by decide +kernel) wd_50 (Or.inl rfl) (Or.inl rfl) rfl, List.forall_mem_cons.mpr ⟨
  s_goto (show decode (cod 86) 78 = .ok (.goto 10, 3) by decide +kernel) (by decide), List.forall_mem_cons.mpr ⟨
  s_aload_n (k := 0) (show decode (cod 86) 81 = .ok (.aload_n 0, 1) by decide +kernel), List.forall_mem_cons.mpr ⟨
  s_aload_n (k := 2) (show decode (cod 86) 82 = .ok (.aload_n 2, 1) by decide +kernel), List.forall_mem_cons.mpr ⟨
  s_iload_n (k := 3) (show decode (cod 86) 83 = .ok (.iload_n 3, 1) by decide +kernel), List.forall_mem_cons.mpr ⟨
  s_aload_n (k := 1) (show decode (cod 86) 84 = .ok (.aload_n 1, 1) by decide +kernel), List.forall_mem_cons.mpr ⟨
  s_invK rfl (rcv_virt (show decode (cod 86) 85 = .ok (.invokevirtual 133, 3) by decide +kernel) cld_86_93 ⟨5, _, _, rfl, by decide, rfl⟩ wd_457 wd_458 wd_459), List.forall_mem_cons.mpr ⟨
  s_aload_n (k := 0) (show decode (cod 86) 88 = .ok (.aload_n 0, 1) by decide +kernel), List.forall_mem_cons.mpr ⟨
  s_invK rfl (rcv_virt (show decode (cod 86) 89 = .ok (.invokevirtual 118, 3) by decide +kernel) cld_86_82 ⟨5, _, _, rfl, by decide, rfl⟩ wd_427 wd_428 wd_429), List.forall_mem_cons.mpr ⟨
  s_ret (show decode (cod 86) 92 = .ok (.return_, 1) by decide +kernel) rV_ok (fun h => by cases h), fun _ h => by cases h⟩⟩⟩⟩⟩⟩⟩⟩⟩⟩⟩⟩⟩⟩⟩
set_option maxRecDepth 100000 in
theorem si86 (X : CX) (l : Launch) : ∀ q ∈ pt86, SI X l 86 q.1 q.2 := (List.forall_mem_append (l₁ := _) (l₂ := _)).mpr ⟨si86_0 X l, si86_1 X l⟩
set_option maxRecDepth 100000 in
set_option maxHeartbeats 4000000 in
theorem si87_0 (X : CX) (l : Launch) : ∀ q ∈ ([(0, iP 3 (fK (.inl 251))), (3, iP 4 (fIst 1)), (4, iP 5 (fIld 1)), (5, iB 8 22 (b1 (fun x => decide (x ≤ 0)))), (8, iP 9 (fAld 0)), (9, iP 10 (fIld 1)), (10, iRJ 11 qAJ), (11, iP 12 (fK (.inr (.inl 0)))), (12, iP 13 fLcmp), (13, iB 16 22 (b1 (fun x => decide (x ≠ 0)))), (16, iP 19 (fInc 1 (-1))), (19, iP 4 fGo), (22, iP 23 (fK (.inl 0))), (23, iP 24 (fIst 2)), (24, iP 25 (fIld 2)), (25, iP 26 (fK (.inl 5))), (26, iB 29 44 (b2 (fun x y => decide (y ≤ x)))), (29, iP 30 (fIld 1)), (30, iP 33 (fK (.inr (.inr 2)))), (33, iP 34 (fIld 2)), (34, iRI 35 qAI), (35, iB 38 44 (b2 (fun x y => decide (x < y)))), (38, iP 41 (fInc 2 1)), (41, iP 24 fGo), (44, iP 45 (fIld 2)), (45, iRet rI)] : List (Nat × AS)), SI X l 87 q.1 q.2 := List.forall_mem_cons.mpr ⟨
  s_sipush (show decode (cod 87) 0 = .ok (.sipush 251, 3) by decide +kernel) rfl, List.forall_mem_cons.mpr ⟨
  s_istore_n (k := 1) (show decode (cod 87) 3 = .ok (.istore_n 1, 1) by decide +kernel), List.forall_mem_cons.mpr ⟨
  s_iload_n (k := 1) (show decode (cod 87) 4 = .ok (.iload_n 1, 1) by decide +kernel), List.forall_mem_cons.mpr ⟨
  s_ifle (show decode (cod 87) 5 = .ok (.ifCond .le 17, 3) by decide +kernel) (by decide), List.forall_mem_cons.mpr ⟨
  s_aload_n (k := 0) (show decode (cod 87) 8 = .ok (.aload_n 0, 1) by decide +kernel), List.forall_mem_cons.mpr ⟨
  s_iload_n (k := 1) (show decode (cod 87) 9 = .ok (.iload_n 1, 1) by decide +kernel), List.forall_mem_cons.mpr ⟨
  s_laload (show decode (cod 87) 10 = .ok (.laload, 1) by decide +kernel), List.forall_mem_cons.mpr ⟨
  s_lconst (show decode (cod 87) 11 = .ok (.lconst 0, 1) by decide +kernel) rfl, List.forall_mem_cons.mpr ⟨
  s_lcmp (show decode (cod 87) 12 = .ok (.lcmp, 1) by decide +kernel), List.forall_mem_cons.mpr ⟨
  s_ifne (show decode (cod 87) 13 = .ok (.ifCond .ne 9, 3) by decide +kernel) (by decide), List.forall_mem_cons.mpr ⟨
  s_iinc (show decode (cod 87) 16 = .ok (.iinc 1 (-1), 3) by decide +kernel) rfl, List.forall_mem_cons.mpr ⟨
  s_goto (show decode (cod 87) 19 = .ok (.goto (-15), 3) by decide +kernel) (by decide), List.forall_mem_cons.mpr ⟨
  s_iconst (show decode (cod 87) 22 = .ok (.iconst 0, 1) by decide +kernel) rfl, List.forall_mem_cons.mpr ⟨
  s_istore_n (k := 2) (show decode (cod 87) 23 = .ok (.istore_n 2, 1) by decide +kernel), List.forall_mem_cons.mpr ⟨
  s_iload_n (k := 2) (show decode (cod 87) 24 = .ok (.iload_n 2, 1) by decide +kernel), List.forall_mem_cons.mpr ⟨
  s_iconst (show decode (cod 87) 25 = .ok (.iconst 5, 1) by decide +kernel) rfl, List.forall_mem_cons.mpr ⟨
  s_icmpge (show decode (cod 87) 26 = .ok (.if_icmp .ge 18, 3) by decide +kernel) (by decide), List.forall_mem_cons.mpr ⟨
  s_iload_n (k := 1) (show decode (cod 87) 29 = .ok (.iload_n 1, 1) by decide +kernel), List.forall_mem_cons.mpr ⟨
  s_getst1 (show decode (cod 87) 30 = .ok (.getstatic 26, 3) by decide +kernel) wd_59, List.forall_mem_cons.mpr ⟨
  s_iload_n (k := 2) (show decode (cod 87) 33 = .ok (.iload_n 2, 1) by decide +kernel), List.forall_mem_cons.mpr ⟨
  s_iaload (show decode (cod 87) 34 = .ok (.iaload, 1) by decide +kernel), List.forall_mem_cons.mpr ⟨
  s_icmplt (show decode (cod 87) 35 = .ok (.if_icmp .lt 9, 3) by decide +kernel) (by decide), List.forall_mem_cons.mpr ⟨
  s_iinc (show decode (cod 87) 38 = .ok (.iinc 2 1, 3) by decide +kernel) rfl, List.forall_mem_cons.mpr ⟨
  s_goto (show decode (cod 87) 41 = .ok (.goto (-17), 3) by decide +kernel) (by decide), List.forall_mem_cons.mpr ⟨
  s_iload_n (k := 2) (show decode (cod 87) 44 = .ok (.iload_n 2, 1) by decide +kernel), List.forall_mem_cons.mpr ⟨
  s_ret (show decode (cod 87) 45 = .ok (.ireturn, 1) by decide +kernel) rI_ok (fun h => by cases h), fun _ h => by cases h⟩⟩⟩⟩⟩⟩⟩⟩⟩⟩⟩⟩⟩⟩⟩⟩⟩⟩⟩⟩⟩⟩⟩⟩⟩⟩
set_option maxRecDepth 100000 in
theorem si87 (X : CX) (l : Launch) : ∀ q ∈ pt87, SI X l 87 q.1 q.2 :=  si87_0 X l
set_option maxRecDepth 100000 in
set_option maxHeartbeats 4000000 in
theorem si88_0 (X : CX) (l : Launch) : ∀ q ∈ ([(0, iP 1 (fK (.inl 0))), (1, iP 2 (fIst 1)), (2, iP 3 (fIld 1)), (3, iP 4 (fK (.inl 2))), (4, iP 5 (fAld 0)), (5, iRI 8 (gtI 3)), (8, iP 9 (f2I (fun x y => x + y))), (9, iB 12 36 (b2 (fun x y => decide (y ≤ x)))), (12, iP 13 (fIld 1)), (13, iP 14 (fK (.inl 5))), (14, iB 17 36 (b2 (fun x y => decide (y ≤ x)))), (17, iP 18 (fAld 0)), (18, iRR 21 (gtR 0)), (21, iP 22 (fK (.inl 1))), (22, iP 23 (fIld 1)), (23, iP 24 (f2I (fun x y => x + y))), (24, iRI 25 qAI), (25, iB 28 30 (b1 (fun x => decide (x = 0)))), (28, iP 29 (fK (.inl 0))), (29, iRet rZ), (30, iP 33 (fInc 1 1)), (33, iP 2 fGo), (36, iP 37 (fK (.inl 1))), (37, iRet rZ)] : List (Nat × AS)), SI X l 88 q.1 q.2 := List.forall_mem_cons.mpr ⟨
  s_iconst (show decode (cod 88) 0 = .ok (.iconst 0, 1) by decide +kernel) rfl, List.forall_mem_cons.mpr ⟨
  s_istore_n (k := 1) (show decode (cod 88) 1 = .ok (.istore_n 1, 1) by decide +kernel), List.forall_mem_cons.mpr ⟨
  s_iload_n (k := 1) (show decode (cod 88) 2 = .ok (.iload_n 1, 1) by decide +kernel), List.forall_mem_cons.mpr ⟨
  s_iconst (show decode (cod 88) 3 = .ok (.iconst 2, 1) by decide +kernel) rfl, List.forall_mem_cons.mpr ⟨
  s_aload_n (k := 0) (show decode (cod 88) 4 = .ok (.aload_n 0, 1) by decide +kernel), List.forall_mem_cons.mpr ⟨
  s_getI (show decode (cod 88) 5 = .ok (.getfield 15, 3) by decide +kernel) wd_326 (Or.inr wd_327) (Or.inl rfl), List.forall_mem_cons.mpr ⟨
  s_iadd (show decode (cod 88) 8 = .ok (.iadd, 1) by decide +kernel), List.forall_mem_cons.mpr ⟨
  s_icmpge (show decode (cod 88) 9 = .ok (.if_icmp .ge 27, 3) by decide +kernel) (by decide), List.forall_mem_cons.mpr ⟨
  s_iload_n (k := 1) (show decode (cod 88) 12 = .ok (.iload_n 1, 1) by decide +kernel), List.forall_mem_cons.mpr ⟨
  s_iconst (show decode (cod 88) 13 = .ok (.iconst 5, 1) by decide +kernel) rfl, List.forall_mem_cons.mpr ⟨
  s_icmpge (show decode (cod 88) 14 = .ok (.if_icmp .ge 22, 3) by decide +kernel) (by decide), List.forall_mem_cons.mpr ⟨
  s_aload_n (k := 0) (show decode (cod 88) 17 = .ok (.aload_n 0, 1) by decide +kernel), List.forall_mem_cons.mpr ⟨
  s_getR (show decode (cod 88) 18 = .ok (.getfield 18, 3) by decide +kernel) wd_460 (Or.inr wd_461) rfl, List.forall_mem_cons.mpr ⟨
  s_iconst (show decode (cod 88) 21 = .ok (.iconst 1, 1) by decide +kernel) rfl, List.forall_mem_cons.mpr ⟨
  s_iload_n (k := 1) (show decode (cod 88) 22 = .ok (.iload_n 1, 1) by decide +kernel), List.forall_mem_cons.mpr ⟨
  s_iadd (show decode (cod 88) 23 = .ok (.iadd, 1) by decide +kernel), List.forall_mem_cons.mpr ⟨
  s_iaload (show decode (cod 88) 24 = .ok (.iaload, 1) by decide +kernel), List.forall_mem_cons.mpr ⟨
  s_ifeq (show decode (cod 88) 25 = .ok (.ifCond .eq 5, 3) by decide +kernel) (by decide), List.forall_mem_cons.mpr ⟨
  s_iconst (show decode (cod 88) 28 = .ok (.iconst 0, 1) by decide +kernel) rfl, List.forall_mem_cons.mpr ⟨
  s_ret (show decode (cod 88) 29 = .ok (.ireturn, 1) by decide +kernel) rZ_ok (fun _ => rZ_b), List.forall_mem_cons.mpr ⟨
  s_iinc (show decode (cod 88) 30 = .ok (.iinc 1 1, 3) by decide +kernel) rfl, List.forall_mem_cons.mpr ⟨
  s_goto (show decode (cod 88) 33 = .ok (.goto (-31), 3) by decide +kernel) (by decide), List.forall_mem_cons.mpr ⟨
  s_iconst (show decode (cod 88) 36 = .ok (.iconst 1, 1) by decide +kernel) rfl, List.forall_mem_cons.mpr ⟨
  s_ret (show decode (cod 88) 37 = .ok (.ireturn, 1) by decide +kernel) rZ_ok (fun _ => rZ_b), fun _ h => by cases h⟩⟩⟩⟩⟩⟩⟩⟩⟩⟩⟩⟩⟩⟩⟩⟩⟩⟩⟩⟩⟩⟩⟩⟩
set_option maxRecDepth 100000 in
theorem si88 (X : CX) (l : Launch) : ∀ q ∈ pt88, SI X l 88 q.1 q.2 :=  si88_0 X l
set_option maxRecDepth 100000 in
set_option maxHeartbeats 4000000 in
theorem si89_0 (X : CX) (l : Launch) : ∀ q ∈ ([(0, iP 1 (fAld 3)), (1, iCK 4 3 90 1 1 1), (4, iP 6 (fIst 4)), (6, iP 7 (fIld 2)), (7, iC 10 79 1 1 1), (10, iP 12 (fIst 5)), (12, iP 13 (fK (.inl 0))), (13, iP 15 (fIst 6)), (15, iP 17 (fIld 6)), (17, iP 19 (fIld 5)), (19, iB 22 105 (b2 (fun x y => decide (y ≤ x)))), (22, iP 23 (fAld 0)), (23, iRR 26 (gtR 14)), (26, iP 28 (fIld 6)), (28, iP 30 (fIld 4)), (30, iCK 33 5 91 3 3 1), (33, iB 36 99 (b1 (fun x => decide (x = 0)))), (36, iP 38 (fIld 6)), (38, iP 40 (fIst 7)), (40, iP 41 (fK (.inl 0))), (41, iP 43 (fIst 8)), (43, iP 45 (fIld 8)), (45, iP 46 (fIld 2)), (46, iB 49 99 (b2 (fun x y => decide (y < x)))), (49, iP 51 (fIld 7)), (51, iB 54 99 (b1 (fun x => decide (x < 0)))), (54, iP 55 (fAld 0)), (55, iRR 58 (gtR 17)), (58, iP 60 (fIld 6)), (60, iP 61 fDup2), (61, iRJ 62 qAJ), (62, iP 63 (fAld 1)), (63, iP 65 (fIld 7)), (65, iRJ 66 qAJ), (66, iP 68 (fIld 8)), (68, iP 69 (fAld 3)), (69, iRR 72 (gtR 0)), (72, iP 73 (fK (.inl 0))), (73, iRI 74 qAI), (74, iC 77 92 8 2 2)] : List (Nat × AS)), SI X l 89 q.1 q.2 := List.forall_mem_cons.mpr ⟨
  s_aload_n (k := 3) (show decode (cod 89) 0 = .ok (.aload_n 3, 1) by decide +kernel), List.forall_mem_cons.mpr ⟨
  s_invK rfl (rcv_virt (show decode (cod 89) 1 = .ok (.invokevirtual 136, 3) by decide +kernel) cld_89_90 ⟨2, _, _, rfl, by decide, rfl⟩ wd_463 wd_464 wd_465), List.forall_mem_cons.mpr ⟨
  s_istore (k := 4) (show decode (cod 89) 4 = .ok (.istore 4, 2) by decide +kernel), List.forall_mem_cons.mpr ⟨
  s_iload_n (k := 2) (show decode (cod 89) 6 = .ok (.iload_n 2, 1) by decide +kernel), List.forall_mem_cons.mpr ⟨
  s_invS (show decode (cod 89) 7 = .ok (.invokestatic 140, 3) by decide +kernel) rfl cld_89_79 wd_412 wd_413, List.forall_mem_cons.mpr ⟨
  s_istore (k := 5) (show decode (cod 89) 10 = .ok (.istore 5, 2) by decide +kernel), List.forall_mem_cons.mpr ⟨
  s_iconst (show decode (cod 89) 12 = .ok (.iconst 0, 1) by decide +kernel) rfl, List.forall_mem_cons.mpr ⟨
  s_istore (k := 6) (show decode (cod 89) 13 = .ok (.istore 6, 2) by decide +kernel), List.forall_mem_cons.mpr ⟨
  s_iload (k := 6) (show decode (cod 89) 15 = .ok (.iload 6, 2) by decide +kernel), List.forall_mem_cons.mpr ⟨
  s_iload (k := 5) (show decode (cod 89) 17 = .ok (.iload 5, 2) by decide +kernel), List.forall_mem_cons.mpr ⟨
  s_icmpge (show decode (cod 89) 19 = .ok (.if_icmp .ge 86, 3) by decide +kernel) (by decide), List.forall_mem_cons.mpr ⟨
  s_aload_n (k := 0) (show decode (cod 89) 22 = .ok (.aload_n 0, 1) by decide +kernel), List.forall_mem_cons.mpr ⟨
  s_getR (show decode (cod 89) 23 = .ok (.getfield 12, 3) by decide +kernel) wd_42 (Or.inl rfl) rfl, List.forall_mem_cons.mpr ⟨
  s_iload (k := 6) (show decode (cod 89) 26 = .ok (.iload 6, 2) by decide +kernel), List.forall_mem_cons.mpr ⟨
  s_iload (k := 4) (show decode (cod 89) 28 = .ok (.iload 4, 2) by decide +kernel), List.forall_mem_cons.mpr ⟨
  s_invK rfl (rcv_virt (show decode (cod 89) 30 = .ok (.invokevirtual 144, 3) by decide +kernel) cld_89_91 ⟨4, _, _, rfl, by decide, rfl⟩ wd_467 wd_468 wd_469), List.forall_mem_cons.mpr ⟨
  s_ifeq (show decode (cod 89) 33 = .ok (.ifCond .eq 66, 3) by decide +kernel) (by decide), List.forall_mem_cons.mpr ⟨
  s_iload (k := 6) (show decode (cod 89) 36 = .ok (.iload 6, 2) by decide +kernel), List.forall_mem_cons.mpr ⟨
  s_istore (k := 7) (show decode (cod 89) 38 = .ok (.istore 7, 2) by decide +kernel), List.forall_mem_cons.mpr ⟨
  s_iconst (show decode (cod 89) 40 = .ok (.iconst 0, 1) by decide +kernel) rfl, List.forall_mem_cons.mpr ⟨
  s_istore (k := 8) (show decode (cod 89) 41 = .ok (.istore 8, 2) by decide +kernel), List.forall_mem_cons.mpr ⟨
  s_iload (k := 8) (show decode (cod 89) 43 = .ok (.iload 8, 2) by decide +kernel), List.forall_mem_cons.mpr ⟨
  s_iload_n (k := 2) (show decode (cod 89) 45 = .ok (.iload_n 2, 1) by decide +kernel), List.forall_mem_cons.mpr ⟨
  s_icmpgt (show decode (cod 89) 46 = .ok (.if_icmp .gt 53, 3) by decide +kernel) (by decide), List.forall_mem_cons.mpr ⟨
  s_iload (k := 7) (show decode (cod 89) 49 = .ok (.iload 7, 2) by decide +kernel), List.forall_mem_cons.mpr ⟨
  s_iflt (show decode (cod 89) 51 = .ok (.ifCond .lt 48, 3) by decide +kernel) (by decide), List.forall_mem_cons.mpr ⟨
  s_aload_n (k := 0) (show decode (cod 89) 54 = .ok (.aload_n 0, 1) by decide +kernel), List.forall_mem_cons.mpr ⟨
  s_getR (show decode (cod 89) 55 = .ok (.getfield 27, 3) by decide +kernel) wd_47 (Or.inl rfl) rfl, List.forall_mem_cons.mpr ⟨
  s_iload (k := 6) (show decode (cod 89) 58 = .ok (.iload 6, 2) by decide +kernel), List.forall_mem_cons.mpr ⟨
  s_dup2 (show decode (cod 89) 60 = .ok (.dup2, 1) by decide +kernel), List.forall_mem_cons.mpr ⟨
  s_laload (show decode (cod 89) 61 = .ok (.laload, 1) by decide +kernel), List.forall_mem_cons.mpr ⟨
  s_aload_n (k := 1) (show decode (cod 89) 62 = .ok (.aload_n 1, 1) by decide +kernel), List.forall_mem_cons.mpr ⟨
  s_iload (k := 7) (show decode (cod 89) 63 = .ok (.iload 7, 2) by decide +kernel), List.forall_mem_cons.mpr ⟨
  s_laload (show decode (cod 89) 65 = .ok (.laload, 1) by decide +kernel), List.forall_mem_cons.mpr ⟨
  s_iload (k := 8) (show decode (cod 89) 66 = .ok (.iload 8, 2) by decide +kernel), List.forall_mem_cons.mpr ⟨
  s_aload_n (k := 3) (show decode (cod 89) 68 = .ok (.aload_n 3, 1) by decide +kernel), List.forall_mem_cons.mpr ⟨
  s_getR (show decode (cod 89) 69 = .ok (.getfield 148, 3) by decide +kernel) wd_470 (Or.inr wd_461) rfl, List.forall_mem_cons.mpr ⟨
  s_iconst (show decode (cod 89) 72 = .ok (.iconst 0, 1) by decide +kernel) rfl, List.forall_mem_cons.mpr ⟨
  s_iaload (show decode (cod 89) 73 = .ok (.iaload, 1) by decide +kernel), List.forall_mem_cons.mpr ⟨
  s_invS (show decode (cod 89) 74 = .ok (.invokestatic 151, 3) by decide +kernel) rfl cld_89_92 wd_472 wd_473, fun _ h => by cases h⟩⟩⟩⟩⟩⟩⟩⟩⟩⟩⟩⟩⟩⟩⟩⟩⟩⟩⟩⟩⟩⟩⟩⟩⟩⟩⟩⟩⟩⟩⟩⟩⟩⟩⟩⟩⟩⟩⟩⟩
set_option maxRecDepth 100000 in
set_option maxHeartbeats 4000000 in
theorem si89_1 (X : CX) (l : Launch) : ∀ q ∈ ([(77, iP 78 (f2J (fun x y => x * y))), (78, iP 79 (f2J (fun x y => x + y))), (79, iW 80 wAJ), (80, iP 81 (fAld 0)), (81, iRR 84 (gtR 14)), (84, iP 86 (fIld 7)), (86, iP 88 (fIld 4)), (88, iCK 91 5 8 3 3 1), (91, iP 93 (fIst 7)), (93, iP 96 (fInc 8 1)), (96, iP 43 fGo), (99, iP 102 (fInc 6 1)), (102, iP 15 fGo), (105, iRet rV)] : List (Nat × AS)), SI X l 89 q.1 q.2 := List.forall_mem_cons.mpr ⟨
  s_lmul (show decode (cod 89) 77 = .ok (.lmul, 1) by decide +kernel), List.forall_mem_cons.mpr ⟨
  s_ladd (show decode (cod 89) 78 = .ok (.ladd, 1) by decide +kernel), List.forall_mem_cons.mpr ⟨
  s_lastore (show decode (cod 89) 79 = .ok (.lastore, 1) by decide +kernel), List.forall_mem_cons.mpr ⟨
  s_aload_n (k := 0) (show decode (cod 89) 80 = .ok (.aload_n 0, 1) by decide +kernel), List.forall_mem_cons.mpr ⟨
  s_getR (show decode (cod 89) 81 = .ok (.getfield 12, 3) by decide +kernel) wd_42 (Or.inl rfl) rfl, List.forall_mem_cons.mpr ⟨
  s_iload (k := 7) (show decode (cod 89) 84 = .ok (.iload 7, 2) by decide +kernel), List.forall_mem_cons.mpr ⟨
  s_iload (k := 4) (show decode (cod 89) 86 = .ok (.iload 4, 2) by decide +kernel), List.forall_mem_cons.mpr ⟨
  s_invK rfl (rcv_virt (show decode (cod 89) 88 = .ok (.invokevirtual 155, 3) by decide +kernel) cld_89_8 ⟨4, _, _, rfl, by decide, rfl⟩ wd_474 wd_70 wd_71), List.forall_mem_cons.mpr ⟨
  s_istore (k := 7) (show decode (cod 89) 91 = .ok (.istore 7, 2) by decide +kernel), List.forall_mem_cons.mpr ⟨
  s_iinc (show decode (cod 89) 93 = .ok (.iinc 8 1, 3) by decide +kernel) rfl, List.forall_mem_cons.mpr ⟨
  s_goto (show decode (cod 89) 96 = .ok (.goto (-53), 3) by decide +kernel) (by decide), List.forall_mem_cons.mpr ⟨
  s_iinc (show decode (cod 89) 99 = .ok (.iinc 6 1, 3) by decide +kernel) rfl, List.forall_mem_cons.mpr ⟨
  s_goto (show decode (cod 89) 102 = .ok (.goto (-87), 3) by decide +kernel) (by decide), List.forall_mem_cons.mpr ⟨
  s_ret (show decode (cod 89) 105 = .ok (.return_, 1) by decide +kernel) rV_ok (fun h => by cases h), fun _ h => by cases h⟩⟩⟩⟩⟩⟩⟩⟩⟩⟩⟩⟩⟩⟩
set_option maxRecDepth 100000 in
theorem si89 (X : CX) (l : Launch) : ∀ q ∈ pt89, SI X l 89 q.1 q.2 := (List.forall_mem_append (l₁ := _) (l₂ := _)).mpr ⟨si89_0 X l, si89_1 X l⟩
set_option maxRecDepth 100000 in
set_option maxHeartbeats 4000000 in
theorem si90_0 (X : CX) (l : Launch) : ∀ q ∈ ([(0, iP 1 (fK (.inl 2))), (1, iP 2 (fAld 0)), (2, iRI 5 (gtI 3)), (5, iP 6 (f2I (fun x y => x + y))), (6, iRet rI)] : List (Nat × AS)), SI X l 90 q.1 q.2 := List.forall_mem_cons.mpr ⟨
  s_iconst (show decode (cod 90) 0 = .ok (.iconst 2, 1) by decide +kernel) rfl, List.forall_mem_cons.mpr ⟨
  s_aload_n (k := 0) (show decode (cod 90) 1 = .ok (.aload_n 0, 1) by decide +kernel), List.forall_mem_cons.mpr ⟨
  s_getI (show decode (cod 90) 2 = .ok (.getfield 15, 3) by decide +kernel) wd_326 (Or.inr wd_327) (Or.inl rfl), List.forall_mem_cons.mpr ⟨
  s_iadd (show decode (cod 90) 5 = .ok (.iadd, 1) by decide +kernel), List.forall_mem_cons.mpr ⟨
  s_ret (show decode (cod 90) 6 = .ok (.ireturn, 1) by decide +kernel) rI_ok (fun h => by cases h), fun _ h => by cases h⟩⟩⟩⟩⟩
set_option maxRecDepth 100000 in
theorem si90 (X : CX) (l : Launch) : ∀ q ∈ pt90, SI X l 90 q.1 q.2 :=  si90_0 X l
set_option maxRecDepth 100000 in
set_option maxHeartbeats 4000000 in
theorem si91_0 (X : CX) (l : Launch) : ∀ q ∈ ([(0, iP 1 (fIld 1)), (1, iB 4 25 (b1 (fun x => decide (x < 0)))), (4, iP 5 (fIld 1)), (5, iP 8 (fK (.inl 252))), (8, iB 11 25 (b2 (fun x y => decide (y ≤ x)))), (11, iP 12 (fAld 0)), (12, iRR 15 (gtR 13)), (15, iP 16 (fIld 1)), (16, iRI 17 qAI), (17, iP 18 (fIld 2)), (18, iB 21 25 (b2 (fun x y => decide (y ≤ x)))), (21, iP 22 (fK (.inl 1))), (22, iP 26 fGo), (25, iP 26 (fK (.inl 0))), (26, iRet rZ)] : List (Nat × AS)), SI X l 91 q.1 q.2 := List.forall_mem_cons.mpr ⟨
  s_iload_n (k := 1) (show decode (cod 91) 0 = .ok (.iload_n 1, 1) by decide +kernel), List.forall_mem_cons.mpr ⟨
  s_iflt (show decode (cod 91) 1 = .ok (.ifCond .lt 24, 3) by decide +kernel) (by decide), List.forall_mem_cons.mpr ⟨
  s_iload_n (k := 1) (show decode (cod 91) 4 = .ok (.iload_n 1, 1) by decide +kernel), List.forall_mem_cons.mpr ⟨
  s_sipush (show decode (cod 91) 5 = .ok (.sipush 252, 3) by decide +kernel) rfl, List.forall_mem_cons.mpr ⟨
  s_icmpge (show decode (cod 91) 8 = .ok (.if_icmp .ge 17, 3) by decide +kernel) (by decide), List.forall_mem_cons.mpr ⟨
  s_aload_n (k := 0) (show decode (cod 91) 11 = .ok (.aload_n 0, 1) by decide +kernel), List.forall_mem_cons.mpr ⟨
  s_getR (show decode (cod 91) 12 = .ok (.getfield 16, 3) by decide +kernel) wd_54 (Or.inl rfl) rfl, List.forall_mem_cons.mpr ⟨
  s_iload_n (k := 1) (show decode (cod 91) 15 = .ok (.iload_n 1, 1) by decide +kernel), List.forall_mem_cons.mpr ⟨
  s_iaload (show decode (cod 91) 16 = .ok (.iaload, 1) by decide +kernel), List.forall_mem_cons.mpr ⟨
  s_iload_n (k := 2) (show decode (cod 91) 17 = .ok (.iload_n 2, 1) by decide +kernel), List.forall_mem_cons.mpr ⟨
  s_icmpge (show decode (cod 91) 18 = .ok (.if_icmp .ge 7, 3) by decide +kernel) (by decide), List.forall_mem_cons.mpr ⟨
  s_iconst (show decode (cod 91) 21 = .ok (.iconst 1, 1) by decide +kernel) rfl, List.forall_mem_cons.mpr ⟨
  s_goto (show decode (cod 91) 22 = .ok (.goto 4, 3) by decide +kernel) (by decide), List.forall_mem_cons.mpr ⟨
  s_iconst (show decode (cod 91) 25 = .ok (.iconst 0, 1) by decide +kernel) rfl, List.forall_mem_cons.mpr ⟨
  s_ret (show decode (cod 91) 26 = .ok (.ireturn, 1) by decide +kernel) rZ_ok (fun _ => rZ_b), fun _ h => by cases h⟩⟩⟩⟩⟩⟩⟩⟩⟩⟩⟩⟩⟩⟩⟩
set_option maxRecDepth 100000 in
theorem si91 (X : CX) (l : Launch) : ∀ q ∈ pt91, SI X l 91 q.1 q.2 :=  si91_0 X l
set_option maxRecDepth 100000 in
set_option maxHeartbeats 4000000 in
theorem si92_0 (X : CX) (l : Launch) : ∀ q ∈ ([(0, iP 1 (fK (.inr (.inl 0)))), (1, iP 2 (fLst 2)), (2, iP 3 (fK (.inl 1))), (3, iP 5 (fIst 4)), (5, iP 7 (fIld 4)), (7, iP 8 (fIld 1)), (8, iB 11 54 (b2 (fun x y => decide (y < x)))), (11, iP 13 (fIld 4)), (13, iP 14 (fK (.inl 2))), (14, iB 17 54 (b2 (fun x y => decide (y < x)))), (17, iP 18 (fK (.inr (.inl 1)))), (18, iP 20 (fLst 5)), (20, iP 21 (fK (.inl 0))), (21, iP 23 (fIst 7)), (23, iP 25 (fIld 7)), (25, iP 26 (fIld 0)), (26, iB 29 43 (b2 (fun x y => decide (y ≤ x)))), (29, iP 31 (fJld 5)), (31, iP 33 (fIld 4)), (33, iP 34 fI2l), (34, iP 35 (f2J (fun x y => x * y))), (35, iP 37 (fLst 5)), (37, iP 40 (fInc 7 1)), (40, iP 23 fGo), (43, iP 44 (fJld 2)), (44, iP 46 (fJld 5)), (46, iP 47 (f2J (fun x y => x + y))), (47, iP 48 (fLst 2)), (48, iP 51 (fInc 4 1)), (51, iP 5 fGo), (54, iP 55 (fJld 2)), (55, iRet rJ)] : List (Nat × AS)), SI X l 92 q.1 q.2 := List.forall_mem_cons.mpr ⟨
  s_lconst (show decode (cod 92) 0 = .ok (.lconst 0, 1) by decide +kernel) rfl, List.forall_mem_cons.mpr ⟨
  s_lstore_n (k := 2) (show decode (cod 92) 1 = .ok (.lstore_n 2, 1) by decide +kernel), List.forall_mem_cons.mpr ⟨
  s_iconst (show decode (cod 92) 2 = .ok (.iconst 1, 1) by decide +kernel) rfl, List.forall_mem_cons.mpr ⟨
  s_istore (k := 4) (show decode (cod 92) 3 = .ok (.istore 4, 2) by decide +kernel), List.forall_mem_cons.mpr ⟨
  s_iload (k := 4) (show decode (cod 92) 5 = .ok (.iload 4, 2) by decide +kernel), List.forall_mem_cons.mpr ⟨
  s_iload_n (k := 1) (show decode (cod 92) 7 = .ok (.iload_n 1, 1) by decide +kernel), List.forall_mem_cons.mpr ⟨
  s_icmpgt (show decode (cod 92) 8 = .ok (.if_icmp .gt 46, 3) by decide +kernel) (by decide), List.forall_mem_cons.mpr ⟨
  s_iload (k := 4) (show decode (cod 92) 11 = .ok (.iload 4, 2) by decide +kernel), List.forall_mem_cons.mpr ⟨
  s_iconst (show decode (cod 92) 13 = .ok (.iconst 2, 1) by decide +kernel) rfl, List.forall_mem_cons.mpr ⟨
  s_icmpgt (show decode (cod 92) 14 = .ok (.if_icmp .gt 40, 3) by decide +kernel) (by decide), List.forall_mem_cons.mpr ⟨
  s_lconst (show decode (cod 92) 17 = .ok (.lconst 1, 1) by decide +kernel) rfl, List.forall_mem_cons.mpr ⟨
  s_lstore (k := 5) (show decode (cod 92) 18 = .ok (.lstore 5, 2) by decide +kernel), List.forall_mem_cons.mpr ⟨
  s_iconst (show decode (cod 92) 20 = .ok (.iconst 0, 1) by decide +kernel) rfl, List.forall_mem_cons.mpr ⟨
  s_istore (k := 7) (show decode (cod 92) 21 = .ok (.istore 7, 2) by decide +kernel), List.forall_mem_cons.mpr ⟨
  s_iload (k := 7) (show decode (cod 92) 23 = .ok (.iload 7, 2) by decide +kernel), List.forall_mem_cons.mpr ⟨
  s_iload_n (k := 0) (show decode (cod 92) 25 = .ok (.iload_n 0, 1) by decide +kernel), List.forall_mem_cons.mpr ⟨
  s_icmpge (show decode (cod 92) 26 = .ok (.if_icmp .ge 17, 3) by decide +kernel) (by decide), List.forall_mem_cons.mpr ⟨
  s_lload (k := 5) (show decode (cod 92) 29 = .ok (.lload 5, 2) by decide +kernel), List.forall_mem_cons.mpr ⟨
  s_iload (k := 4) (show decode (cod 92) 31 = .ok (.iload 4, 2) by decide +kernel), List.forall_mem_cons.mpr ⟨
  s_i2l (show decode (cod 92) 33 = .ok (.i2l, 1) by decide +kernel), List.forall_mem_cons.mpr ⟨
  s_lmul (show decode (cod 92) 34 = .ok (.lmul, 1) by decide +kernel), List.forall_mem_cons.mpr ⟨
  s_lstore (k := 5) (show decode (cod 92) 35 = .ok (.lstore 5, 2) by decide +kernel), List.forall_mem_cons.mpr ⟨
  s_iinc (show decode (cod 92) 37 = .ok (.iinc 7 1, 3) by decide +kernel) rfl, List.forall_mem_cons.mpr ⟨
  s_goto (show decode (cod 92) 40 = .ok (.goto (-17), 3) by decide +kernel) (by decide), List.forall_mem_cons.mpr ⟨
  s_lload_n (k := 2) (show decode (cod 92) 43 = .ok (.lload_n 2, 1) by decide +kernel), List.forall_mem_cons.mpr ⟨
  s_lload (k := 5) (show decode (cod 92) 44 = .ok (.lload 5, 2) by decide +kernel), List.forall_mem_cons.mpr ⟨
  s_ladd (show decode (cod 92) 46 = .ok (.ladd, 1) by decide +kernel), List.forall_mem_cons.mpr ⟨
  s_lstore_n (k := 2) (show decode (cod 92) 47 = .ok (.lstore_n 2, 1) by decide +kernel), List.forall_mem_cons.mpr ⟨
  s_iinc (show decode (cod 92) 48 = .ok (.iinc 4 1, 3) by decide +kernel) rfl, List.forall_mem_cons.mpr ⟨
  s_goto (show decode (cod 92) 51 = .ok (.goto (-46), 3) by decide +kernel) (by decide), List.forall_mem_cons.mpr ⟨
  s_lload_n (k := 2) (show decode (cod 92) 54 = .ok (.lload_n 2, 1) by decide +kernel), List.forall_mem_cons.mpr ⟨
  s_ret (show decode (cod 92) 55 = .ok (.lreturn, 1) by decide +kernel) rJ_ok (fun h => by cases h), fun _ h => by cases h⟩⟩⟩⟩⟩⟩⟩⟩⟩⟩⟩⟩⟩⟩⟩⟩⟩⟩⟩⟩⟩⟩⟩⟩⟩⟩⟩⟩⟩⟩⟩⟩
set_option maxRecDepth 100000 in
theorem si92 (X : CX) (l : Launch) : ∀ q ∈ pt92, SI X l 92 q.1 q.2 :=  si92_0 X l
set_option maxRecDepth 100000 in
set_option maxHeartbeats 4000000 in
theorem si93_0 (X : CX) (l : Launch) : ∀ q ∈ ([(0, iP 1 (fIld 2)), (1, iP 2 (fK (.inl 1))), (2, iP 3 (f2I (fun x y => x + y))), (3, iP 5 (fIst 4)), (5, iP 7 (fIld 4)), (7, iP 8 (fK (.inl 1))), (8, iB 11 88 (b2 (fun x y => decide (x < y)))), (11, iP 12 (fIld 2)), (12, iP 13 (fK (.inl 1))), (13, iP 14 (f2I (fun x y => x + y))), (14, iP 16 (fIld 4)), (16, iP 17 (f2I (fun x y => x - y))), (17, iC 20 79 1 1 1), (20, iP 22 (fIst 5)), (22, iP 23 (fK (.inl 0))), (23, iP 25 (fIst 6)), (25, iP 27 (fIld 6)), (27, iP 29 (fIld 5)), (29, iB 32 61 (b2 (fun x y => decide (y ≤ x)))), (32, iP 33 (fAld 0)), (33, iRR 36 (gtR 17)), (36, iP 38 (fIld 6)), (38, iP 39 fDup2), (39, iRJ 40 qAJ), (40, iP 41 (fAld 0)), (41, iP 43 (fIld 4)), (43, iP 44 (fAld 1)), (44, iP 46 (fIld 6)), (46, iP 47 (fAld 3)), (47, iCK 50 3 90 1 1 1), (50, iCK 53 6 94 9 5 2), (53, iP 54 (f2J (fun x y => x + y))), (54, iW 55 wAJ), (55, iP 58 (fInc 6 1)), (58, iP 25 fGo), (61, iP 62 (fAld 0)), (62, iRR 65 (gtR 14)), (65, iP 66 (fAld 0)), (66, iRR 69 (gtR 17)), (69, iP 71 (fIld 5))] : List (Nat × AS)), SI X l 93 q.1 q.2 := List.forall_mem_cons.mpr ⟨
  s_iload_n (k := 2) (show decode (cod 93) 0 = .ok (.iload_n 2, 1) by decide +kernel), List.forall_mem_cons.mpr ⟨
  s_iconst (show decode (cod 93) 1 = .ok (.iconst 1, 1) by decide +kernel) rfl, List.forall_mem_cons.mpr ⟨
  s_iadd (show decode (cod 93) 2 = .ok (.iadd, 1) by decide +kernel), List.forall_mem_cons.mpr ⟨
  s_istore (k := 4) (show decode (cod 93) 3 = .ok (.istore 4, 2) by decide +kernel), List.forall_mem_cons.mpr ⟨
  s_iload (k := 4) (show decode (cod 93) 5 = .ok (.iload 4, 2) by decide +kernel), List.forall_mem_cons.mpr ⟨
  s_iconst (show decode (cod 93) 7 = .ok (.iconst 1, 1) by decide +kernel) rfl, List.forall_mem_cons.mpr ⟨
  s_icmplt (show decode (cod 93) 8 = .ok (.if_icmp .lt 80, 3) by decide +kernel) (by decide), List.forall_mem_cons.mpr ⟨
  s_iload_n (k := 2) (show decode (cod 93) 11 = .ok (.iload_n 2, 1) by decide +kernel), List.forall_mem_cons.mpr ⟨
  s_iconst (show decode (cod 93) 12 = .ok (.iconst 1, 1) by decide +kernel) rfl, List.forall_mem_cons.mpr ⟨
  s_iadd (show decode (cod 93) 13 = .ok (.iadd, 1) by decide +kernel), List.forall_mem_cons.mpr ⟨
  s_iload (k := 4) (show decode (cod 93) 14 = .ok (.iload 4, 2) by decide +kernel), List.forall_mem_cons.mpr ⟨
  s_isub (show decode (cod 93) 16 = .ok (.isub, 1) by decide +kernel), List.forall_mem_cons.mpr ⟨
  s_invS (show decode (cod 93) 17 = .ok (.invokestatic 140, 3) by decide +kernel) rfl cld_93_79 wd_412 wd_413, List.forall_mem_cons.mpr ⟨
  s_istore (k := 5) (show decode (cod 93) 20 = .ok (.istore 5, 2) by decide +kernel), List.forall_mem_cons.mpr ⟨
  s_iconst (show decode (cod 93) 22 = .ok (.iconst 0, 1) by decide +kernel) rfl, List.forall_mem_cons.mpr ⟨
  s_istore (k := 6) (show decode (cod 93) 23 = .ok (.istore 6, 2) by decide +kernel), List.forall_mem_cons.mpr ⟨
  s_iload (k := 6) (show decode (cod 93) 25 = .ok (.iload 6, 2) by decide +kernel), List.forall_mem_cons.mpr ⟨
  s_iload (k := 5) (show decode (cod 93) 27 = .ok (.iload 5, 2) by decide +kernel), List.forall_mem_cons.mpr ⟨
  s_icmpge (show decode (cod 93) 29 = .ok (.if_icmp .ge 32, 3) by decide +kernel) (by decide), List.forall_mem_cons.mpr ⟨
  s_aload_n (k := 0) (show decode (cod 93) 32 = .ok (.aload_n 0, 1) by decide +kernel), List.forall_mem_cons.mpr ⟨
  s_getR (show decode (cod 93) 33 = .ok (.getfield 27, 3) by decide +kernel) wd_47 (Or.inl rfl) rfl, List.forall_mem_cons.mpr ⟨
  s_iload (k := 6) (show decode (cod 93) 36 = .ok (.iload 6, 2) by decide +kernel), List.forall_mem_cons.mpr ⟨
  s_dup2 (show decode (cod 93) 38 = .ok (.dup2, 1) by decide +kernel), List.forall_mem_cons.mpr ⟨
  s_laload (show decode (cod 93) 39 = .ok (.laload, 1) by decide +kernel), List.forall_mem_cons.mpr ⟨
  s_aload_n (k := 0) (show decode (cod 93) 40 = .ok (.aload_n 0, 1) by decide +kernel), List.forall_mem_cons.mpr ⟨
  s_iload (k := 4) (show decode (cod 93) 41 = .ok (.iload 4, 2) by decide +kernel), List.forall_mem_cons.mpr ⟨
  s_aload_n (k := 1) (show decode (cod 93) 43 = .ok (.aload_n 1, 1) by decide +kernel), List.forall_mem_cons.mpr ⟨
  s_iload (k := 6) (show decode (cod 93) 44 = .ok (.iload 6, 2) by decide +kernel), List.forall_mem_cons.mpr ⟨
  s_aload_n (k := 3) (show decode (cod 93) 46 = .ok (.aload_n 3, 1) by decide +kernel), List.forall_mem_cons.mpr ⟨
  s_invK rfl (rcv_virt (show decode (cod 93) 47 = .ok (.invokevirtual 136, 3) by decide +kernel) cld_93_90 ⟨2, _, _, rfl, by decide, rfl⟩ wd_463 wd_464 wd_465), List.forall_mem_cons.mpr ⟨
  s_invK rfl (rcv_virt (show decode (cod 93) 50 = .ok (.invokevirtual 159, 3) by decide +kernel) cld_93_94 ⟨5, _, _, rfl, by decide, rfl⟩ wd_476 wd_477 wd_478), List.forall_mem_cons.mpr ⟨
  s_ladd (show decode (cod 93) 53 = .ok (.ladd, 1) by decide +kernel), List.forall_mem_cons.mpr ⟨
  s_lastore (show decode (cod 93) 54 = .ok (.lastore, 1) by decide +kernel), List.forall_mem_cons.mpr ⟨
  s_iinc (show decode (cod 93) 55 = .ok (.iinc 6 1, 3) by decide +kernel) rfl, List.forall_mem_cons.mpr ⟨
  s_goto (show decode (cod 93) 58 = .ok (.goto (-33), 3) by decide +kernel) (by decide), List.forall_mem_cons.mpr ⟨
  s_aload_n (k := 0) (show decode (cod 93) 61 = .ok (.aload_n 0, 1) by decide +kernel), List.forall_mem_cons.mpr ⟨
  s_getR (show decode (cod 93) 62 = .ok (.getfield 12, 3) by decide +kernel) wd_42 (Or.inl rfl) rfl, List.forall_mem_cons.mpr ⟨
  s_aload_n (k := 0) (show decode (cod 93) 65 = .ok (.aload_n 0, 1) by decide +kernel), List.forall_mem_cons.mpr ⟨
  s_getR (show decode (cod 93) 66 = .ok (.getfield 27, 3) by decide +kernel) wd_47 (Or.inl rfl) rfl, List.forall_mem_cons.mpr ⟨
  s_iload (k := 5) (show decode (cod 93) 69 = .ok (.iload 5, 2) by decide +kernel), fun _ h => by cases h⟩⟩⟩⟩⟩⟩⟩⟩⟩⟩⟩⟩⟩⟩⟩⟩⟩⟩⟩⟩⟩⟩⟩⟩⟩⟩⟩⟩⟩⟩⟩⟩⟩⟩⟩⟩⟩⟩⟩⟩
set_option maxRecDepth 100000 in
set_option maxHeartbeats 4000000 in
theorem si93_1 (X : CX) (l : Launch) : ∀ q ∈ ([(71, iP 72 (fAld 3)), (72, iRR 75 (gtR 0)), (75, iP 76 (fAld 3)), (76, iRI 79 (gtI 3)), (79, iCK 82 5 80 11 5 0), (82, iP 85 (fInc 4 (-1))), (85, iP 5 fGo), (88, iP 89 (fK (.inl 0))), (89, iP 91 (fIst 4)), (91, iP 93 (fIld 4)), (93, iP 96 (fK (.inl 252))), (96, iB 99 139 (b2 (fun x y => decide (y ≤ x)))), (99, iP 100 (fAld 0)), (100, iRR 103 (gtR 17)), (103, iP 105 (fIld 4)), (105, iRJ 106 qAJ), (106, iP 109 (fK (.inr (.inl 60)))), (109, iRJ 110 (q2J (fun x y => x - x / y * y))), (110, iP 111 (fK (.inr (.inl 0)))), (111, iP 112 fLcmp), (112, iB 115 120 (b1 (fun x => decide (x = 0)))), (115, iP 116 (fAld 0)), (116, iP 117 (fK (.inl 1))), (117, iW 120 (ptZ 20)), (120, iP 121 (fAld 0)), (121, iRR 124 (gtR 17)), (124, iP 126 (fIld 4)), (126, iP 127 fDup2), (127, iRJ 128 qAJ), (128, iP 131 (fK (.inr (.inl 60)))), (131, iRJ 132 (q2J (fun x y => x / y))), (132, iW 133 wAJ), (133, iP 136 (fInc 4 1)), (136, iP 91 fGo), (139, iRet rV)] : List (Nat × AS)), SI X l 93 q.1 q.2 := List.forall_mem_cons.mpr ⟨
  s_aload_n (k := 3) (show decode (cod 93) 71 = .ok (.aload_n 3, 1) by decide +kernel), List.forall_mem_cons.mpr ⟨
  s_getR (show decode (cod 93) 72 = .ok (.getfield 148, 3) by decide +kernel) wd_470 (Or.inr wd_461) rfl, List.forall_mem_cons.mpr ⟨
  s_aload_n (k := 3) (show decode (cod 93) 75 = .ok (.aload_n 3, 1) by decide +kernel), List.forall_mem_cons.mpr ⟨
  s_getI (show decode (cod 93) 76 = .ok (.getfield 163, 3) by decide +kernel) wd_479 (Or.inr wd_327) (Or.inl rfl), List.forall_mem_cons.mpr ⟨
  s_invK rfl (rcv_virt (show decode (cod 93) 79 = .ok (.invokevirtual 166, 3) by decide +kernel) cld_93_80 ⟨4, _, _, rfl, by decide, rfl⟩ wd_419 wd_420 wd_421), List.forall_mem_cons.mpr ⟨
  s_iinc (show decode (cod 93) 82 = .ok (.iinc 4 (-1), 3) by decide +kernel) rfl, List.forall_mem_cons.mpr ⟨
  s_goto (show decode (cod 93) 85 = .ok (.goto (-80), 3) by decide +kernel) (by decide), List.forall_mem_cons.mpr ⟨
  s_iconst (show decode (cod 93) 88 = .ok (.iconst 0, 1) by decide +kernel) rfl, List.forall_mem_cons.mpr ⟨
  s_istore (k := 4) (show decode (cod 93) 89 = .ok (.istore 4, 2) by decide +kernel), List.forall_mem_cons.mpr ⟨
  s_iload (k := 4) (show decode (cod 93) 91 = .ok (.iload 4, 2) by decide +kernel), List.forall_mem_cons.mpr ⟨
  s_sipush (show decode (cod 93) 93 = .ok (.sipush 252, 3) by decide +kernel) rfl, List.forall_mem_cons.mpr ⟨
  s_icmpge (show decode (cod 93) 96 = .ok (.if_icmp .ge 43, 3) by decide +kernel) (by decide), List.forall_mem_cons.mpr ⟨
  s_aload_n (k := 0) (show decode (cod 93) 99 = .ok (.aload_n 0, 1) by decide +kernel), List.forall_mem_cons.mpr ⟨
  s_getR (show decode (cod 93) 100 = .ok (.getfield 27, 3) by decide +kernel) wd_47 (Or.inl rfl) rfl, List.forall_mem_cons.mpr ⟨
  s_iload (k := 4) (show decode (cod 93) 103 = .ok (.iload 4, 2) by decide +kernel), List.forall_mem_cons.mpr ⟨
  s_laload (show decode (cod 93) 105 = .ok (.laload, 1) by decide +kernel), List.forall_mem_cons.mpr ⟨
  s_ldc2 (show decode (cod 93) 106 = .ok (.ldc2_w 170, 3) by decide +kernel) wd_480, List.forall_mem_cons.mpr ⟨
  s_lrem (show decode (cod 93) 109 = .ok (.lrem, 1) by decide +kernel), List.forall_mem_cons.mpr ⟨
  s_lconst (show decode (cod 93) 110 = .ok (.lconst 0, 1) by decide +kernel) rfl, List.forall_mem_cons.mpr ⟨
  s_lcmp (show decode (cod 93) 111 = .ok (.lcmp, 1) by decide +kernel), List.forall_mem_cons.mpr ⟨
  s_ifeq (show decode (cod 93) 112 = .ok (.ifCond .eq 8, 3) by decide +kernel) (by decide), List.forall_mem_cons.mpr ⟨
  s_aload_n (k := 0) (show decode (cod 93) 115 = .ok (.aload_n 0, 1) by decide +kernel), List.forall_mem_cons.mpr ⟨
  s_iconst (show decode (cod 93) 116 = .ok (.iconst 1, 1) by decide +kernel) rfl, List.forall_mem_cons.mpr ⟨
  s_putZ (show decode (cod 93) 117 = .ok (.putfield 37, 3) by decide +kernel) wd_50 (Or.inl rfl) (Or.inl rfl) rfl, List.forall_mem_cons.mpr ⟨
  s_aload_n (k := 0) (show decode (cod 93) 120 = .ok (.aload_n 0, 1) by decide +kernel), List.forall_mem_cons.mpr ⟨
  s_getR (show decode (cod 93) 121 = .ok (.getfield 27, 3) by decide +kernel) wd_47 (Or.inl rfl) rfl, List.forall_mem_cons.mpr ⟨
  s_iload (k := 4) (show decode (cod 93) 124 = .ok (.iload 4, 2) by decide +kernel), List.forall_mem_cons.mpr ⟨
  s_dup2 (show decode (cod 93) 126 = .ok (.dup2, 1) by decide +kernel), List.forall_mem_cons.mpr ⟨
  s_laload (show decode (cod 93) 127 = .ok (.laload, 1) by decide +kernel), List.forall_mem_cons.mpr ⟨
  s_ldc2 (show decode (cod 93) 128 = .ok (.ldc2_w 170, 3) by decide +kernel) wd_480, List.forall_mem_cons.mpr ⟨
  s_ldiv (show decode (cod 93) 131 = .ok (.ldiv, 1) by decide +kernel), List.forall_mem_cons.mpr ⟨
  s_lastore (show decode (cod 93) 132 = .ok (.lastore, 1) by decide +kernel), List.forall_mem_cons.mpr ⟨
  s_iinc (show decode (cod 93) 133 = .ok (.iinc 4 1, 3) by decide +kernel) rfl, List.forall_mem_cons.mpr ⟨
  s_goto (show decode (cod 93) 136 = .ok (.goto (-45), 3) by decide +kernel) (by decide), List.forall_mem_cons.mpr ⟨
  s_ret (show decode (cod 93) 139 = .ok (.return_, 1) by decide +kernel) rV_ok (fun h => by cases h), fun _ h => by cases h⟩⟩⟩⟩⟩⟩⟩⟩⟩⟩⟩⟩⟩⟩⟩⟩⟩⟩⟩⟩⟩⟩⟩⟩⟩⟩⟩⟩⟩⟩⟩⟩⟩⟩⟩
set_option maxRecDepth 100000 in
theorem si93 (X : CX) (l : Launch) : ∀ q ∈ pt93, SI X l 93 q.1 q.2 := (List.forall_mem_append (l₁ := _) (l₂ := _)).mpr ⟨si93_0 X l, si93_1 X l⟩
set_option maxRecDepth 100000 in
set_option maxHeartbeats 4000000 in
theorem si94_0 (X : CX) (l : Launch) : ∀ q ∈ ([(0, iP 1 (fK (.inr (.inl 0)))), (1, iP 3 (fLst 5)), (3, iP 4 (fAld 0)), (4, iRR 7 (gtR 14)), (7, iP 8 (fIld 3)), (8, iP 10 (fIld 4)), (10, iCK 13 5 91 3 3 1), (13, iB 16 20 (b1 (fun x => decide (x = 0)))), (16, iP 17 (fIld 3)), (17, iP 21 fGo), (20, iP 21 (fK (.inl (-1)))), (21, iP 23 (fIst 7)), (23, iP 24 (fK (.inl 0))), (24, iP 26 (fIst 8)), (26, iP 28 (fIld 8)), (28, iP 29 (fK (.inl 5))), (29, iB 32 78 (b2 (fun x y => decide (y ≤ x)))), (32, iP 34 (fIld 7)), (34, iB 37 78 (b1 (fun x => decide (x < 0)))), (37, iP 39 (fJld 5)), (39, iP 42 (fK (.inr (.inr 3)))), (42, iP 44 (fIld 8)), (44, iP 46 (fK (.inl 6))), (46, iP 47 (f2I (fun x y => x * y))), (47, iP 48 (fIld 1)), (48, iP 49 (f2I (fun x y => x + y))), (49, iRI 50 qAI), (50, iP 51 fI2l), (51, iP 52 (fAld 2)), (52, iP 54 (fIld 7)), (54, iRJ 55 qAJ), (55, iP 56 (f2J (fun x y => x * y))), (56, iP 57 (f2J (fun x y => x + y))), (57, iP 59 (fLst 5)), (59, iP 60 (fAld 0)), (60, iRR 63 (gtR 14)), (63, iP 65 (fIld 7)), (65, iP 67 (fIld 4)), (67, iCK 70 5 8 3 3 1), (70, iP 72 (fIst 7))] : List (Nat × AS)), SI X l 94 q.1 q.2 := List.forall_mem_cons.mpr ⟨
  s_lconst (show decode (cod 94) 0 = .ok (.lconst 0, 1) by decide +kernel) rfl, List.forall_mem_cons.mpr ⟨
  s_lstore (k := 5) (show decode (cod 94) 1 = .ok (.lstore 5, 2) by decide +kernel), List.forall_mem_cons.mpr ⟨
  s_aload_n (k := 0) (show decode (cod 94) 3 = .ok (.aload_n 0, 1) by decide +kernel), List.forall_mem_cons.mpr ⟨
  s_getR (show decode (cod 94) 4 = .ok (.getfield 12, 3) by decide +kernel) wd_42 (Or.inl rfl) rfl, List.forall_mem_cons.mpr ⟨
  s_iload_n (k := 3) (show decode (cod 94) 7 = .ok (.iload_n 3, 1) by decide +kernel), List.forall_mem_cons.mpr ⟨
  s_iload (k := 4) (show decode (cod 94) 8 = .ok (.iload 4, 2) by decide +kernel), List.forall_mem_cons.mpr ⟨
  s_invK rfl (rcv_virt (show decode (cod 94) 10 = .ok (.invokevirtual 144, 3) by decide +kernel) cld_94_91 ⟨4, _, _, rfl, by decide, rfl⟩ wd_467 wd_468 wd_469), List.forall_mem_cons.mpr ⟨
  s_ifeq (show decode (cod 94) 13 = .ok (.ifCond .eq 7, 3) by decide +kernel) (by decide), List.forall_mem_cons.mpr ⟨
  s_iload_n (k := 3) (show decode (cod 94) 16 = .ok (.iload_n 3, 1) by decide +kernel), List.forall_mem_cons.mpr ⟨
  s_goto (show decode (cod 94) 17 = .ok (.goto 4, 3) by decide +kernel) (by decide), List.forall_mem_cons.mpr ⟨
  s_iconst (show decode (cod 94) 20 = .ok (.iconst (-1), 1) by decide +kernel) rfl, List.forall_mem_cons.mpr ⟨
  s_istore (k := 7) (show decode (cod 94) 21 = .ok (.istore 7, 2) by decide +kernel), List.forall_mem_cons.mpr ⟨
  s_iconst (show decode (cod 94) 23 = .ok (.iconst 0, 1) by decide +kernel) rfl, List.forall_mem_cons.mpr ⟨
  s_istore (k := 8) (show decode (cod 94) 24 = .ok (.istore 8, 2) by decide +kernel), List.forall_mem_cons.mpr ⟨
  s_iload (k := 8) (show decode (cod 94) 26 = .ok (.iload 8, 2) by decide +kernel), List.forall_mem_cons.mpr ⟨
  s_iconst (show decode (cod 94) 28 = .ok (.iconst 5, 1) by decide +kernel) rfl, List.forall_mem_cons.mpr ⟨
  s_icmpge (show decode (cod 94) 29 = .ok (.if_icmp .ge 49, 3) by decide +kernel) (by decide), List.forall_mem_cons.mpr ⟨
  s_iload (k := 7) (show decode (cod 94) 32 = .ok (.iload 7, 2) by decide +kernel), List.forall_mem_cons.mpr ⟨
  s_iflt (show decode (cod 94) 34 = .ok (.ifCond .lt 44, 3) by decide +kernel) (by decide), List.forall_mem_cons.mpr ⟨
  s_lload (k := 5) (show decode (cod 94) 37 = .ok (.lload 5, 2) by decide +kernel), List.forall_mem_cons.mpr ⟨
  s_getst2 (show decode (cod 94) 39 = .ok (.getstatic 172, 3) by decide +kernel) wd_481, List.forall_mem_cons.mpr ⟨
  s_iload (k := 8) (show decode (cod 94) 42 = .ok (.iload 8, 2) by decide +kernel), List.forall_mem_cons.mpr ⟨
  s_bipush (show decode (cod 94) 44 = .ok (.bipush 6, 2) by decide +kernel) rfl, List.forall_mem_cons.mpr ⟨
  s_imul (show decode (cod 94) 46 = .ok (.imul, 1) by decide +kernel), List.forall_mem_cons.mpr ⟨
  s_iload_n (k := 1) (show decode (cod 94) 47 = .ok (.iload_n 1, 1) by decide +kernel), List.forall_mem_cons.mpr ⟨
  s_iadd (show decode (cod 94) 48 = .ok (.iadd, 1) by decide +kernel), List.forall_mem_cons.mpr ⟨
  s_iaload (show decode (cod 94) 49 = .ok (.iaload, 1) by decide +kernel), List.forall_mem_cons.mpr ⟨
  s_i2l (show decode (cod 94) 50 = .ok (.i2l, 1) by decide +kernel), List.forall_mem_cons.mpr ⟨
  s_aload_n (k := 2) (show decode (cod 94) 51 = .ok (.aload_n 2, 1) by decide +kernel), List.forall_mem_cons.mpr ⟨
  s_iload (k := 7) (show decode (cod 94) 52 = .ok (.iload 7, 2) by decide +kernel), List.forall_mem_cons.mpr ⟨
  s_laload (show decode (cod 94) 54 = .ok (.laload, 1) by decide +kernel), List.forall_mem_cons.mpr ⟨
  s_lmul (show decode (cod 94) 55 = .ok (.lmul, 1) by decide +kernel), List.forall_mem_cons.mpr ⟨
  s_ladd (show decode (cod 94) 56 = .ok (.ladd, 1) by decide +kernel), List.forall_mem_cons.mpr ⟨
  s_lstore (k := 5) (show decode (cod 94) 57 = .ok (.lstore 5, 2) by decide +kernel), List.forall_mem_cons.mpr ⟨
  s_aload_n (k := 0) (show decode (cod 94) 59 = .ok (.aload_n 0, 1) by decide +kernel), List.forall_mem_cons.mpr ⟨
  s_getR (show decode (cod 94) 60 = .ok (.getfield 12, 3) by decide +kernel) wd_42 (Or.inl rfl) rfl, List.forall_mem_cons.mpr ⟨
  s_iload (k := 7) (show decode (cod 94) 63 = .ok (.iload 7, 2) by decide +kernel), List.forall_mem_cons.mpr ⟨
  s_iload (k := 4) (show decode (cod 94) 65 = .ok (.iload 4, 2) by decide +kernel), List.forall_mem_cons.mpr ⟨
  s_invK rfl (rcv_virt (show decode (cod 94) 67 = .ok (.invokevirtual 155, 3) by decide +kernel) cld_94_8 ⟨4, _, _, rfl, by decide, rfl⟩ wd_474 wd_70 wd_71), List.forall_mem_cons.mpr ⟨
  s_istore (k := 7) (show decode (cod 94) 70 = .ok (.istore 7, 2) by decide +kernel), fun _ h => by cases h⟩⟩⟩⟩⟩⟩⟩⟩⟩⟩⟩⟩⟩⟩⟩⟩⟩⟩⟩⟩⟩⟩⟩⟩⟩⟩⟩⟩⟩⟩⟩⟩⟩⟩⟩⟩⟩⟩⟩⟩
set_option maxRecDepth 100000 in
set_option maxHeartbeats 4000000 in
theorem si94_1 (X : CX) (l : Launch) : ∀ q ∈ ([(72, iP 75 (fInc 8 1)), (75, iP 26 fGo), (78, iP 80 (fJld 5)), (80, iRet rJ)] : List (Nat × AS)), SI X l 94 q.1 q.2 := List.forall_mem_cons.mpr ⟨
  s_iinc (show decode (cod 94) 72 = .ok (.iinc 8 1, 3) by decide +kernel) rfl, List.forall_mem_cons.mpr ⟨
  s_goto (show decode (cod 94) 75 = .ok (.goto (-49), 3) by decide +kernel) (by decide), List.forall_mem_cons.mpr ⟨
  s_lload (k := 5) (show decode (cod 94) 78 = .ok (.lload 5, 2) by decide +kernel), List.forall_mem_cons.mpr ⟨
  s_ret (show decode (cod 94) 80 = .ok (.lreturn, 1) by decide +kernel) rJ_ok (fun h => by cases h), fun _ h => by cases h⟩⟩⟩⟩
set_option maxRecDepth 100000 in
theorem si94 (X : CX) (l : Launch) : ∀ q ∈ pt94, SI X l 94 q.1 q.2 := (List.forall_mem_append (l₁ := _) (l₂ := _)).mpr ⟨si94_0 X l, si94_1 X l⟩
set_option maxRecDepth 100000 in
set_option maxHeartbeats 4000000 in
theorem si95_0 (X : CX) (l : Launch) : ∀ q ∈ ([(0, iP 1 (fK (.inl 0))), (1, iP 2 (fIst 2)), (2, iP 3 (fK (.inl 0))), (3, iP 4 (fIst 3)), (4, iP 5 (fIld 3)), (5, iP 6 (fK (.inl 5))), (6, iB 9 82 (b2 (fun x y => decide (y < x)))), (9, iP 10 (fIld 2)), (10, iP 12 (fIst 4)), (12, iP 13 (fK (.inl 0))), (13, iP 15 (fIst 5)), (15, iP 17 (fIld 5)), (17, iP 18 (fK (.inl 5))), (18, iB 21 66 (b2 (fun x y => decide (y < x)))), (21, iP 22 (fAld 1)), (22, iP 23 (fIld 3)), (23, iP 25 (fK (.inl 6))), (25, iP 26 (f2I (fun x y => x * y))), (26, iP 28 (fIld 5)), (28, iP 29 (f2I (fun x y => x + y))), (29, iP 31 (fIld 4)), (31, iB 34 38 (b1 (fun x => decide (0 ≤ x)))), (34, iP 35 (fK (.inr (.inl 0)))), (35, iP 47 fGo), (38, iP 39 (fAld 0)), (39, iRR 42 (gtR 15)), (42, iP 43 (fK (.inl 0))), (43, iRR 44 qAR), (44, iP 46 (fIld 4)), (46, iRJ 47 qAJ), (47, iW 48 wAJ), (48, iP 49 (fAld 0)), (49, iRR 52 (gtR 14)), (52, iP 54 (fIld 4)), (54, iP 55 (fK (.inl 1))), (55, iCK 58 5 8 3 3 1), (58, iP 60 (fIst 4)), (60, iP 63 (fInc 5 1)), (63, iP 15 fGo), (66, iP 67 (fAld 0))] : List (Nat × AS)), SI X l 95 q.1 q.2 := List.forall_mem_cons.mpr ⟨
  s_iconst (show decode (cod 95) 0 = .ok (.iconst 0, 1) by decide +kernel) rfl, List.forall_mem_cons.mpr ⟨
  s_istore_n (k := 2) (show decode (cod 95) 1 = .ok (.istore_n 2, 1) by decide +kernel), List.forall_mem_cons.mpr ⟨
  s_iconst (show decode (cod 95) 2 = .ok (.iconst 0, 1) by decide +kernel) rfl, List.forall_mem_cons.mpr ⟨
  s_istore_n (k := 3) (show decode (cod 95) 3 = .ok (.istore_n 3, 1) by decide +kernel), List.forall_mem_cons.mpr ⟨
  s_iload_n (k := 3) (show decode (cod 95) 4 = .ok (.iload_n 3, 1) by decide +kernel), List.forall_mem_cons.mpr ⟨
  s_iconst (show decode (cod 95) 5 = .ok (.iconst 5, 1) by decide +kernel) rfl, List.forall_mem_cons.mpr ⟨
  s_icmpgt (show decode (cod 95) 6 = .ok (.if_icmp .gt 76, 3) by decide +kernel) (by decide), List.forall_mem_cons.mpr ⟨
  s_iload_n (k := 2) (show decode (cod 95) 9 = .ok (.iload_n 2, 1) by decide +kernel), List.forall_mem_cons.mpr ⟨
  s_istore (k := 4) (show decode (cod 95) 10 = .ok (.istore 4, 2) by decide +kernel), List.forall_mem_cons.mpr ⟨
  s_iconst (show decode (cod 95) 12 = .ok (.iconst 0, 1) by decide +kernel) rfl, List.forall_mem_cons.mpr ⟨
  s_istore (k := 5) (show decode (cod 95) 13 = .ok (.istore 5, 2) by decide +kernel), List.forall_mem_cons.mpr ⟨
  s_iload (k := 5) (show decode (cod 95) 15 = .ok (.iload 5, 2) by decide +kernel), List.forall_mem_cons.mpr ⟨
  s_iconst (show decode (cod 95) 17 = .ok (.iconst 5, 1) by decide +kernel) rfl, List.forall_mem_cons.mpr ⟨
  s_icmpgt (show decode (cod 95) 18 = .ok (.if_icmp .gt 48, 3) by decide +kernel) (by decide), List.forall_mem_cons.mpr ⟨
  s_aload_n (k := 1) (show decode (cod 95) 21 = .ok (.aload_n 1, 1) by decide +kernel), List.forall_mem_cons.mpr ⟨
  s_iload_n (k := 3) (show decode (cod 95) 22 = .ok (.iload_n 3, 1) by decide +kernel), List.forall_mem_cons.mpr ⟨
  s_bipush (show decode (cod 95) 23 = .ok (.bipush 6, 2) by decide +kernel) rfl, List.forall_mem_cons.mpr ⟨
  s_imul (show decode (cod 95) 25 = .ok (.imul, 1) by decide +kernel), List.forall_mem_cons.mpr ⟨
  s_iload (k := 5) (show decode (cod 95) 26 = .ok (.iload 5, 2) by decide +kernel), List.forall_mem_cons.mpr ⟨
  s_iadd (show decode (cod 95) 28 = .ok (.iadd, 1) by decide +kernel), List.forall_mem_cons.mpr ⟨
  s_iload (k := 4) (show decode (cod 95) 29 = .ok (.iload 4, 2) by decide +kernel), List.forall_mem_cons.mpr ⟨
  s_ifge (show decode (cod 95) 31 = .ok (.ifCond .ge 7, 3) by decide +kernel) (by decide), List.forall_mem_cons.mpr ⟨
  s_lconst (show decode (cod 95) 34 = .ok (.lconst 0, 1) by decide +kernel) rfl, List.forall_mem_cons.mpr ⟨
  s_goto (show decode (cod 95) 35 = .ok (.goto 12, 3) by decide +kernel) (by decide), List.forall_mem_cons.mpr ⟨
  s_aload_n (k := 0) (show decode (cod 95) 38 = .ok (.aload_n 0, 1) by decide +kernel), List.forall_mem_cons.mpr ⟨
  s_getR (show decode (cod 95) 39 = .ok (.getfield 20, 3) by decide +kernel) wd_45 (Or.inl rfl) rfl, List.forall_mem_cons.mpr ⟨
  s_iconst (show decode (cod 95) 42 = .ok (.iconst 0, 1) by decide +kernel) rfl, List.forall_mem_cons.mpr ⟨
  s_aaload (show decode (cod 95) 43 = .ok (.aaload, 1) by decide +kernel), List.forall_mem_cons.mpr ⟨
  s_iload (k := 4) (show decode (cod 95) 44 = .ok (.iload 4, 2) by decide +kernel), List.forall_mem_cons.mpr ⟨
  s_laload (show decode (cod 95) 46 = .ok (.laload, 1) by decide +kernel), List.forall_mem_cons.mpr ⟨
  s_lastore (show decode (cod 95) 47 = .ok (.lastore, 1) by decide +kernel), List.forall_mem_cons.mpr ⟨
  s_aload_n (k := 0) (show decode (cod 95) 48 = .ok (.aload_n 0, 1) by decide +kernel), List.forall_mem_cons.mpr ⟨
  s_getR (show decode (cod 95) 49 = .ok (.getfield 12, 3) by decide +kernel) wd_42 (Or.inl rfl) rfl, List.forall_mem_cons.mpr ⟨
  s_iload (k := 4) (show decode (cod 95) 52 = .ok (.iload 4, 2) by decide +kernel), List.forall_mem_cons.mpr ⟨
  s_iconst (show decode (cod 95) 54 = .ok (.iconst 1, 1) by decide +kernel) rfl, List.forall_mem_cons.mpr ⟨
  s_invK rfl (rcv_virt (show decode (cod 95) 55 = .ok (.invokevirtual 155, 3) by decide +kernel) cld_95_8 ⟨4, _, _, rfl, by decide, rfl⟩ wd_474 wd_70 wd_71), List.forall_mem_cons.mpr ⟨
  s_istore (k := 4) (show decode (cod 95) 58 = .ok (.istore 4, 2) by decide +kernel), List.forall_mem_cons.mpr ⟨
  s_iinc (show decode (cod 95) 60 = .ok (.iinc 5 1, 3) by decide +kernel) rfl, List.forall_mem_cons.mpr ⟨
  s_goto (show decode (cod 95) 63 = .ok (.goto (-48), 3) by decide +kernel) (by decide), List.forall_mem_cons.mpr ⟨
  s_aload_n (k := 0) (show decode (cod 95) 66 = .ok (.aload_n 0, 1) by decide +kernel), fun _ h => by cases h⟩⟩⟩⟩⟩⟩⟩⟩⟩⟩⟩⟩⟩⟩⟩⟩⟩⟩⟩⟩⟩⟩⟩⟩⟩⟩⟩⟩⟩⟩⟩⟩⟩⟩⟩⟩⟩⟩⟩⟩
set_option maxRecDepth 100000 in
set_option maxHeartbeats 4000000 in
theorem si95_1 (X : CX) (l : Launch) : ∀ q ∈ ([(67, iRR 70 (gtR 14)), (70, iP 71 (fIld 2)), (71, iP 72 (fK (.inl 0))), (72, iCK 75 5 8 3 3 1), (75, iP 76 (fIst 2)), (76, iP 79 (fInc 3 1)), (79, iP 4 fGo), (82, iRet rV)] : List (Nat × AS)), SI X l 95 q.1 q.2 := List.forall_mem_cons.mpr ⟨
  s_getR (show decode (cod 95) 67 = .ok (.getfield 12, 3) by decide +kernel) wd_42 (Or.inl rfl) rfl, List.forall_mem_cons.mpr ⟨
  s_iload_n (k := 2) (show decode (cod 95) 70 = .ok (.iload_n 2, 1) by decide +kernel), List.forall_mem_cons.mpr ⟨
  s_iconst (show decode (cod 95) 71 = .ok (.iconst 0, 1) by decide +kernel) rfl, List.forall_mem_cons.mpr ⟨
  s_invK rfl (rcv_virt (show decode (cod 95) 72 = .ok (.invokevirtual 155, 3) by decide +kernel) cld_95_8 ⟨4, _, _, rfl, by decide, rfl⟩ wd_474 wd_70 wd_71), List.forall_mem_cons.mpr ⟨
  s_istore_n (k := 2) (show decode (cod 95) 75 = .ok (.istore_n 2, 1) by decide +kernel), List.forall_mem_cons.mpr ⟨
  s_iinc (show decode (cod 95) 76 = .ok (.iinc 3 1, 3) by decide +kernel) rfl, List.forall_mem_cons.mpr ⟨
  s_goto (show decode (cod 95) 79 = .ok (.goto (-75), 3) by decide +kernel) (by decide), List.forall_mem_cons.mpr ⟨
  s_ret (show decode (cod 95) 82 = .ok (.return_, 1) by decide +kernel) rV_ok (fun h => by cases h), fun _ h => by cases h⟩⟩⟩⟩⟩⟩⟩⟩
set_option maxRecDepth 100000 in
theorem si95 (X : CX) (l : Launch) : ∀ q ∈ pt95, SI X l 95 q.1 q.2 := (List.forall_mem_append (l₁ := _) (l₂ := _)).mpr ⟨si95_0 X l, si95_1 X l⟩
set_option maxRecDepth 100000 in
set_option maxHeartbeats 4000000 in
theorem si96_0 (X : CX) (l : Launch) : ∀ q ∈ ([(0, iP 1 (fK (.inl 0))), (1, iP 2 (fIst 2)), (2, iP 3 (fAld 0)), (3, iRR 6 (gtR 27)), (6, iP 7 (fIld 1)), (7, iRR 8 qAR), (8, iP 9 (fAst 3)), (9, iP 10 (fAld 3)), (10, iRI 11 qLen), (11, iP 13 (fIst 4)), (13, iP 14 (fK (.inl 0))), (14, iP 16 (fIst 5)), (16, iP 18 (fIld 5)), (18, iP 20 (fIld 4)), (20, iB 23 45 (b2 (fun x y => decide (y ≤ x)))), (23, iP 24 (fAld 3)), (24, iP 26 (fIld 5)), (26, iRJ 27 qAJ), (27, iP 29 (fLst 6)), (29, iP 31 (fJld 6)), (31, iP 32 (fK (.inr (.inl 0)))), (32, iP 33 fLcmp), (33, iB 36 39 (b1 (fun x => decide (x = 0)))), (36, iP 39 (fInc 2 1)), (39, iP 42 (fInc 5 1)), (42, iP 16 fGo), (45, iP 46 (fIld 2)), (46, iRet rI)] : List (Nat × AS)), SI X l 96 q.1 q.2 := List.forall_mem_cons.mpr ⟨
  s_iconst (show decode (cod 96) 0 = .ok (.iconst 0, 1) by decide +kernel) rfl, List.forall_mem_cons.mpr ⟨
  s_istore_n (k := 2) (show decode (cod 96) 1 = .ok (.istore_n 2, 1) by decide +kernel), List.forall_mem_cons.mpr ⟨
  s_aload_n (k := 0) (show decode (cod 96) 2 = .ok (.aload_n 0, 1) by decide +kernel), List.forall_mem_cons.mpr ⟨
  s_getR (show decode (cod 96) 3 = .ok (.getfield 33, 3) by decide +kernel) wd_88 (Or.inl rfl) rfl, List.forall_mem_cons.mpr ⟨
  s_iload_n (k := 1) (show decode (cod 96) 6 = .ok (.iload_n 1, 1) by decide +kernel), List.forall_mem_cons.mpr ⟨
  s_aaload (show decode (cod 96) 7 = .ok (.aaload, 1) by decide +kernel), List.forall_mem_cons.mpr ⟨
  s_astore_n (k := 3) (show decode (cod 96) 8 = .ok (.astore_n 3, 1) by decide +kernel), List.forall_mem_cons.mpr ⟨
  s_aload_n (k := 3) (show decode (cod 96) 9 = .ok (.aload_n 3, 1) by decide +kernel), List.forall_mem_cons.mpr ⟨
  s_alen (show decode (cod 96) 10 = .ok (.arraylength, 1) by decide +kernel), List.forall_mem_cons.mpr ⟨
  s_istore (k := 4) (show decode (cod 96) 11 = .ok (.istore 4, 2) by decide +kernel), List.forall_mem_cons.mpr ⟨
  s_iconst (show decode (cod 96) 13 = .ok (.iconst 0, 1) by decide +kernel) rfl, List.forall_mem_cons.mpr ⟨
  s_istore (k := 5) (show decode (cod 96) 14 = .ok (.istore 5, 2) by decide +kernel), List.forall_mem_cons.mpr ⟨
  s_iload (k := 5) (show decode (cod 96) 16 = .ok (.iload 5, 2) by decide +kernel), List.forall_mem_cons.mpr ⟨
  s_iload (k := 4) (show decode (cod 96) 18 = .ok (.iload 4, 2) by decide +kernel), List.forall_mem_cons.mpr ⟨
  s_icmpge (show decode (cod 96) 20 = .ok (.if_icmp .ge 25, 3) by decide +kernel) (by decide), List.forall_mem_cons.mpr ⟨
  s_aload_n (k := 3) (show decode (cod 96) 23 = .ok (.aload_n 3, 1) by decide +kernel), List.forall_mem_cons.mpr ⟨
  s_iload (k := 5) (show decode (cod 96) 24 = .ok (.iload 5, 2) by decide +kernel), List.forall_mem_cons.mpr ⟨
  s_laload (show decode (cod 96) 26 = .ok (.laload, 1) by decide +kernel), List.forall_mem_cons.mpr ⟨
  s_lstore (k := 6) (show decode (cod 96) 27 = .ok (.lstore 6, 2) by decide +kernel), List.forall_mem_cons.mpr ⟨
  s_lload (k := 6) (show decode (cod 96) 29 = .ok (.lload 6, 2) by decide +kernel), List.forall_mem_cons.mpr ⟨
  s_lconst (show decode (cod 96) 31 = .ok (.lconst 0, 1) by decide +kernel) rfl, List.forall_mem_cons.mpr ⟨
  s_lcmp (show decode (cod 96) 32 = .ok (.lcmp, 1) by decide +kernel), List.forall_mem_cons.mpr ⟨
  s_ifeq (show decode (cod 96) 33 = .ok (.ifCond .eq 6, 3) by decide +kernel) (by decide), List.forall_mem_cons.mpr ⟨
  s_iinc (show decode (cod 96) 36 = .ok (.iinc 2 1, 3) by decide +kernel) rfl, List.forall_mem_cons.mpr ⟨
  s_iinc (show decode (cod 96) 39 = .ok (.iinc 5 1, 3) by decide +kernel) rfl, List.forall_mem_cons.mpr ⟨
  s_goto (show decode (cod 96) 42 = .ok (.goto (-26), 3) by decide +kernel) (by decide), List.forall_mem_cons.mpr ⟨
  s_iload_n (k := 2) (show decode (cod 96) 45 = .ok (.iload_n 2, 1) by decide +kernel), List.forall_mem_cons.mpr ⟨
  s_ret (show decode (cod 96) 46 = .ok (.ireturn, 1) by decide +kernel) rI_ok (fun h => by cases h), fun _ h => by cases h⟩⟩⟩⟩⟩⟩⟩⟩⟩⟩⟩⟩⟩⟩⟩⟩⟩⟩⟩⟩⟩⟩⟩⟩⟩⟩⟩⟩
set_option maxRecDepth 100000 in
theorem si96 (X : CX) (l : Launch) : ∀ q ∈ pt96, SI X l 96 q.1 q.2 :=  si96_0 X l
set_option maxRecDepth 100000 in
set_option maxHeartbeats 4000000 in
theorem si97_0 (X : CX) (l : Launch) : ∀ q ∈ ([(0, iP 1 (fAld 0)), (1, iP 2 (fIld 1)), (2, iCK 5 11 15 2 2 3), (5, iP 7 (fAst 5)), (7, iP 9 (fAld 5)), (9, iB 12 34 bN), (12, iP 13 (fIld 2)), (13, iC 16 66 1 1 1), (16, iB 19 34 (b1 (fun x => decide (x = 0)))), (19, iP 20 (fIld 3)), (20, iB 23 34 (b1 (fun x => decide (x < 0)))), (23, iP 25 (fIld 4)), (25, iB 28 34 (b1 (fun x => decide (x < 0)))), (28, iP 30 (fIld 4)), (30, iP 31 (fK (.inl 3))), (31, iB 34 38 (b2 (fun x y => decide (x ≤ y)))), (34, iP 37 (fK (.inr (.inl (-1000001))))), (37, iRet rJ), (38, iP 39 (fAld 0)), (39, iP 41 (fAld 5)), (41, iP 42 (fIld 2)), (42, iCK 45 11 67 6 3 1), (45, iP 47 (fIst 6)), (47, iP 49 (fIld 6)), (49, iB 52 56 (b1 (fun x => decide (0 ≤ x)))), (52, iP 54 (fIld 6)), (54, iP 55 fI2l), (55, iRet rJ), (56, iP 58 (fAld 5)), (58, iP 59 (fIld 2)), (59, iP 60 (fIld 3)), (60, iCK 63 7 98 5 3 1), (63, iP 65 (fIst 7)), (65, iP 67 (fIld 7)), (67, iP 68 (fK (.inl (-1)))), (68, iB 71 75 (b2 (fun x y => decide (x ≠ y)))), (71, iP 74 (fK (.inr (.inl (-1000001))))), (74, iRet rJ), (75, iP 77 (fAld 5)), (77, iRR 80 (gtR 27))] : List (Nat × AS)), SI X l 97 q.1 q.2 := List.forall_mem_cons.mpr ⟨
  s_aload_n (k := 0) (show decode (cod 97) 0 = .ok (.aload_n 0, 1) by decide +kernel), List.forall_mem_cons.mpr ⟨
  s_iload_n (k := 1) (show decode (cod 97) 1 = .ok (.iload_n 1, 1) by decide +kernel), List.forall_mem_cons.mpr ⟨
  s_invK rfl (rcv_virt (show decode (cod 97) 2 = .ok (.invokevirtual 56, 3) by decide +kernel) cld_97_15 ⟨10, _, _, rfl, by decide, rfl⟩ wd_102 wd_103 wd_104), List.forall_mem_cons.mpr ⟨
  s_astore (k := 5) (show decode (cod 97) 5 = .ok (.astore 5, 2) by decide +kernel), List.forall_mem_cons.mpr ⟨
  s_aload (k := 5) (show decode (cod 97) 7 = .ok (.aload 5, 2) by decide +kernel), List.forall_mem_cons.mpr ⟨
  s_ifnull (show decode (cod 97) 9 = .ok (.ifnull 25, 3) by decide +kernel) (by decide), List.forall_mem_cons.mpr ⟨
  s_iload_n (k := 2) (show decode (cod 97) 12 = .ok (.iload_n 2, 1) by decide +kernel), List.forall_mem_cons.mpr ⟨
  s_invS (show decode (cod 97) 13 = .ok (.invokestatic 154, 3) by decide +kernel) rfl cld_97_66 wd_338 wd_339, List.forall_mem_cons.mpr ⟨
  s_ifeq (show decode (cod 97) 16 = .ok (.ifCond .eq 18, 3) by decide +kernel) (by decide), List.forall_mem_cons.mpr ⟨
  s_iload_n (k := 3) (show decode (cod 97) 19 = .ok (.iload_n 3, 1) by decide +kernel), List.forall_mem_cons.mpr ⟨
  s_iflt (show decode (cod 97) 20 = .ok (.ifCond .lt 14, 3) by decide +kernel) (by decide), List.forall_mem_cons.mpr ⟨
  s_iload (k := 4) (show decode (cod 97) 23 = .ok (.iload 4, 2) by decide +kernel), List.forall_mem_cons.mpr ⟨
  s_iflt (show decode (cod 97) 25 = .ok (.ifCond .lt 9, 3) by decide +kernel) (by decide), List.forall_mem_cons.mpr ⟨
  s_iload (k := 4) (show decode (cod 97) 28 = .ok (.iload 4, 2) by decide +kernel), List.forall_mem_cons.mpr ⟨
  s_iconst (show decode (cod 97) 30 = .ok (.iconst 3, 1) by decide +kernel) rfl, List.forall_mem_cons.mpr ⟨
  s_icmple (show decode (cod 97) 31 = .ok (.if_icmp .le 7, 3) by decide +kernel) (by decide), List.forall_mem_cons.mpr ⟨
  s_ldc2 (show decode (cod 97) 34 = .ok (.ldc2_w 164, 3) by decide +kernel) wd_482, List.forall_mem_cons.mpr ⟨
  s_ret (show decode (cod 97) 37 = .ok (.lreturn, 1) by decide +kernel) rJ_ok (fun h => by cases h), List.forall_mem_cons.mpr ⟨
  s_aload_n (k := 0) (show decode (cod 97) 38 = .ok (.aload_n 0, 1) by decide +kernel), List.forall_mem_cons.mpr ⟨
  s_aload (k := 5) (show decode (cod 97) 39 = .ok (.aload 5, 2) by decide +kernel), List.forall_mem_cons.mpr ⟨
  s_iload_n (k := 2) (show decode (cod 97) 41 = .ok (.iload_n 2, 1) by decide +kernel), List.forall_mem_cons.mpr ⟨
  s_invK rfl (rcv_virt (show decode (cod 97) 42 = .ok (.invokevirtual 157, 3) by decide +kernel) cld_97_67 ⟨10, _, _, rfl, by decide, rfl⟩ wd_341 wd_342 wd_343), List.forall_mem_cons.mpr ⟨
  s_istore (k := 6) (show decode (cod 97) 45 = .ok (.istore 6, 2) by decide +kernel), List.forall_mem_cons.mpr ⟨
  s_iload (k := 6) (show decode (cod 97) 47 = .ok (.iload 6, 2) by decide +kernel), List.forall_mem_cons.mpr ⟨
  s_ifge (show decode (cod 97) 49 = .ok (.ifCond .ge 7, 3) by decide +kernel) (by decide), List.forall_mem_cons.mpr ⟨
  s_iload (k := 6) (show decode (cod 97) 52 = .ok (.iload 6, 2) by decide +kernel), List.forall_mem_cons.mpr ⟨
  s_i2l (show decode (cod 97) 54 = .ok (.i2l, 1) by decide +kernel), List.forall_mem_cons.mpr ⟨
  s_ret (show decode (cod 97) 55 = .ok (.lreturn, 1) by decide +kernel) rJ_ok (fun h => by cases h), List.forall_mem_cons.mpr ⟨
  s_aload (k := 5) (show decode (cod 97) 56 = .ok (.aload 5, 2) by decide +kernel), List.forall_mem_cons.mpr ⟨
  s_iload_n (k := 2) (show decode (cod 97) 58 = .ok (.iload_n 2, 1) by decide +kernel), List.forall_mem_cons.mpr ⟨
  s_iload_n (k := 3) (show decode (cod 97) 59 = .ok (.iload_n 3, 1) by decide +kernel), List.forall_mem_cons.mpr ⟨
  s_invK rfl (rcv_virt (show decode (cod 97) 60 = .ok (.invokevirtual 166, 3) by decide +kernel) cld_97_98 ⟨6, _, _, rfl, by decide, rfl⟩ wd_484 wd_485 wd_486), List.forall_mem_cons.mpr ⟨
  s_istore (k := 7) (show decode (cod 97) 63 = .ok (.istore 7, 2) by decide +kernel), List.forall_mem_cons.mpr ⟨
  s_iload (k := 7) (show decode (cod 97) 65 = .ok (.iload 7, 2) by decide +kernel), List.forall_mem_cons.mpr ⟨
  s_iconst (show decode (cod 97) 67 = .ok (.iconst (-1), 1) by decide +kernel) rfl, List.forall_mem_cons.mpr ⟨
  s_icmpne (show decode (cod 97) 68 = .ok (.if_icmp .ne 7, 3) by decide +kernel) (by decide), List.forall_mem_cons.mpr ⟨
  s_ldc2 (show decode (cod 97) 71 = .ok (.ldc2_w 164, 3) by decide +kernel) wd_482, List.forall_mem_cons.mpr ⟨
  s_ret (show decode (cod 97) 74 = .ok (.lreturn, 1) by decide +kernel) rJ_ok (fun h => by cases h), List.forall_mem_cons.mpr ⟨
  s_aload (k := 5) (show decode (cod 97) 75 = .ok (.aload 5, 2) by decide +kernel), List.forall_mem_cons.mpr ⟨
  s_getR (show decode (cod 97) 77 = .ok (.getfield 170, 3) by decide +kernel) wd_487 (Or.inl rfl) rfl, fun _ h => by cases h⟩⟩⟩⟩⟩⟩⟩⟩⟩⟩⟩⟩⟩⟩⟩⟩⟩⟩⟩⟩⟩⟩⟩⟩⟩⟩⟩⟩⟩⟩⟩⟩⟩⟩⟩⟩⟩⟩⟩⟩
set_option maxRecDepth 100000 in
set_option maxHeartbeats 4000000 in
theorem si97_1 (X : CX) (l : Launch) : ∀ q ∈ ([(80, iP 81 (fIld 2)), (81, iRR 82 qAR), (82, iP 84 (fIld 7)), (84, iRJ 85 qAJ), (85, iP 87 (fLst 8)), (87, iP 89 (fIld 4)), (89, iSw 142 0 [116, 125, 135]), (116, iP 118 (fJld 8)), (118, iP 120 (fJld 8)), (120, iC 123 99 9 1 2), (123, iRJ 124 (q2J (fun x y => x / y))), (124, iRet rJ), (125, iP 128 (fK (.inr (.inl 8640)))), (128, iP 130 (fJld 8)), (130, iC 133 99 9 1 2), (133, iRJ 134 (q2J (fun x y => x / y))), (134, iRet rJ), (135, iP 137 (fIld 7)), (137, iP 139 (fK (.inl 6))), (139, iRI 140 (q2I (fun x y => x / y))), (140, iP 141 fI2l), (141, iRet rJ), (142, iP 144 (fIld 7)), (144, iP 146 (fK (.inl 6))), (146, iRI 147 (q2I (fun x y => x - x / y * y))), (147, iP 148 fI2l), (148, iRet rJ)] : List (Nat × AS)), SI X l 97 q.1 q.2 := List.forall_mem_cons.mpr ⟨
  s_iload_n (k := 2) (show decode (cod 97) 80 = .ok (.iload_n 2, 1) by decide +kernel), List.forall_mem_cons.mpr ⟨
  s_aaload (show decode (cod 97) 81 = .ok (.aaload, 1) by decide +kernel), List.forall_mem_cons.mpr ⟨
  s_iload (k := 7) (show decode (cod 97) 82 = .ok (.iload 7, 2) by decide +kernel), List.forall_mem_cons.mpr ⟨
  s_laload (show decode (cod 97) 84 = .ok (.laload, 1) by decide +kernel), List.forall_mem_cons.mpr ⟨
  s_lstore (k := 8) (show decode (cod 97) 85 = .ok (.lstore 8, 2) by decide +kernel), List.forall_mem_cons.mpr ⟨
  s_iload (k := 4) (show decode (cod 97) 87 = .ok (.iload 4, 2) by decide +kernel), List.forall_mem_cons.mpr ⟨
  s_table (show decode (cod 97) 89 = .ok (.tableswitch 53 0 2 #[27, 36, 46], 27) by decide +kernel) (by decide) (by decide) rfl (by decide) (fun j t h => match j, h with | 0, h => ⟨_, rfl, by cases h; rfl⟩ | 1, h => ⟨_, rfl, by cases h; rfl⟩ | 2, h => ⟨_, rfl, by cases h; rfl⟩ | j + 3, h => by simp at h), List.forall_mem_cons.mpr ⟨
  s_lload (k := 8) (show decode (cod 97) 116 = .ok (.lload 8, 2) by decide +kernel), List.forall_mem_cons.mpr ⟨
  s_lload (k := 8) (show decode (cod 97) 118 = .ok (.lload 8, 2) by decide +kernel), List.forall_mem_cons.mpr ⟨
  s_invS (show decode (cod 97) 120 = .ok (.invokestatic 174, 3) by decide +kernel) rfl cld_97_99 wd_489 wd_490, List.forall_mem_cons.mpr ⟨
  s_ldiv (show decode (cod 97) 123 = .ok (.ldiv, 1) by decide +kernel), List.forall_mem_cons.mpr ⟨
  s_ret (show decode (cod 97) 124 = .ok (.lreturn, 1) by decide +kernel) rJ_ok (fun h => by cases h), List.forall_mem_cons.mpr ⟨
  s_ldc2 (show decode (cod 97) 125 = .ok (.ldc2_w 178, 3) by decide +kernel) wd_491, List.forall_mem_cons.mpr ⟨
  s_lload (k := 8) (show decode (cod 97) 128 = .ok (.lload 8, 2) by decide +kernel), List.forall_mem_cons.mpr ⟨
  s_invS (show decode (cod 97) 130 = .ok (.invokestatic 174, 3) by decide +kernel) rfl cld_97_99 wd_489 wd_490, List.forall_mem_cons.mpr ⟨
  s_ldiv (show decode (cod 97) 133 = .ok (.ldiv, 1) by decide +kernel), List.forall_mem_cons.mpr ⟨
  s_ret (show decode (cod 97) 134 = .ok (.lreturn, 1) by decide +kernel) rJ_ok (fun h => by cases h), List.forall_mem_cons.mpr ⟨
  s_iload (k := 7) (show decode (cod 97) 135 = .ok (.iload 7, 2) by decide +kernel), List.forall_mem_cons.mpr ⟨
  s_bipush (show decode (cod 97) 137 = .ok (.bipush 6, 2) by decide +kernel) rfl, List.forall_mem_cons.mpr ⟨
  s_idiv (show decode (cod 97) 139 = .ok (.idiv, 1) by decide +kernel), List.forall_mem_cons.mpr ⟨
  s_i2l (show decode (cod 97) 140 = .ok (.i2l, 1) by decide +kernel), List.forall_mem_cons.mpr ⟨
  s_ret (show decode (cod 97) 141 = .ok (.lreturn, 1) by decide +kernel) rJ_ok (fun h => by cases h), List.forall_mem_cons.mpr ⟨
  s_iload (k := 7) (show decode (cod 97) 142 = .ok (.iload 7, 2) by decide +kernel), List.forall_mem_cons.mpr ⟨
  s_bipush (show decode (cod 97) 144 = .ok (.bipush 6, 2) by decide +kernel) rfl, List.forall_mem_cons.mpr ⟨
  s_irem (show decode (cod 97) 146 = .ok (.irem, 1) by decide +kernel), List.forall_mem_cons.mpr ⟨
  s_i2l (show decode (cod 97) 147 = .ok (.i2l, 1) by decide +kernel), List.forall_mem_cons.mpr ⟨
  s_ret (show decode (cod 97) 148 = .ok (.lreturn, 1) by decide +kernel) rJ_ok (fun h => by cases h), fun _ h => by cases h⟩⟩⟩⟩⟩⟩⟩⟩⟩⟩⟩⟩⟩⟩⟩⟩⟩⟩⟩⟩⟩⟩⟩⟩⟩⟩⟩
set_option maxRecDepth 100000 in
theorem si97 (X : CX) (l : Launch) : ∀ q ∈ pt97, SI X l 97 q.1 q.2 := (List.forall_mem_append (l₁ := _) (l₂ := _)).mpr ⟨si97_0 X l, si97_1 X l⟩
set_option maxRecDepth 100000 in
set_option maxHeartbeats 4000000 in
theorem si98_0 (X : CX) (l : Launch) : ∀ q ∈ ([(0, iP 1 (fK (.inl 0))), (1, iP 2 (fIst 3)), (2, iP 4 (fK (.inl 35))), (4, iP 6 (fIst 4)), (6, iP 8 (fIld 4)), (8, iB 11 42 (b1 (fun x => decide (x < 0)))), (11, iP 12 (fAld 0)), (12, iRR 15 (gtR 27)), (15, iP 16 (fIld 1)), (16, iRR 17 qAR), (17, iP 19 (fIld 4)), (19, iRJ 20 qAJ), (20, iP 21 (fK (.inr (.inl 0)))), (21, iP 22 fLcmp), (22, iB 25 36 (b1 (fun x => decide (x = 0)))), (25, iP 26 (fIld 3)), (26, iP 27 (fIld 2)), (27, iB 30 33 (b2 (fun x y => decide (x ≠ y)))), (30, iP 32 (fIld 4)), (32, iRet rI), (33, iP 36 (fInc 3 1)), (36, iP 39 (fInc 4 (-1))), (39, iP 6 fGo), (42, iP 43 (fK (.inl (-1)))), (43, iRet rI)] : List (Nat × AS)), SI X l 98 q.1 q.2 := List.forall_mem_cons.mpr ⟨
  s_iconst (show decode (cod 98) 0 = .ok (.iconst 0, 1) by decide +kernel) rfl, List.forall_mem_cons.mpr ⟨
  s_istore_n (k := 3) (show decode (cod 98) 1 = .ok (.istore_n 3, 1) by decide +kernel), List.forall_mem_cons.mpr ⟨
  s_bipush (show decode (cod 98) 2 = .ok (.bipush 35, 2) by decide +kernel) rfl, List.forall_mem_cons.mpr ⟨
  s_istore (k := 4) (show decode (cod 98) 4 = .ok (.istore 4, 2) by decide +kernel), List.forall_mem_cons.mpr ⟨
  s_iload (k := 4) (show decode (cod 98) 6 = .ok (.iload 4, 2) by decide +kernel), List.forall_mem_cons.mpr ⟨
  s_iflt (show decode (cod 98) 8 = .ok (.ifCond .lt 34, 3) by decide +kernel) (by decide), List.forall_mem_cons.mpr ⟨
  s_aload_n (k := 0) (show decode (cod 98) 11 = .ok (.aload_n 0, 1) by decide +kernel), List.forall_mem_cons.mpr ⟨
  s_getR (show decode (cod 98) 12 = .ok (.getfield 33, 3) by decide +kernel) wd_88 (Or.inl rfl) rfl, List.forall_mem_cons.mpr ⟨
  s_iload_n (k := 1) (show decode (cod 98) 15 = .ok (.iload_n 1, 1) by decide +kernel), List.forall_mem_cons.mpr ⟨
  s_aaload (show decode (cod 98) 16 = .ok (.aaload, 1) by decide +kernel), List.forall_mem_cons.mpr ⟨
  s_iload (k := 4) (show decode (cod 98) 17 = .ok (.iload 4, 2) by decide +kernel), List.forall_mem_cons.mpr ⟨
  s_laload (show decode (cod 98) 19 = .ok (.laload, 1) by decide +kernel), List.forall_mem_cons.mpr ⟨
  s_lconst (show decode (cod 98) 20 = .ok (.lconst 0, 1) by decide +kernel) rfl, List.forall_mem_cons.mpr ⟨
  s_lcmp (show decode (cod 98) 21 = .ok (.lcmp, 1) by decide +kernel), List.forall_mem_cons.mpr ⟨
  s_ifeq (show decode (cod 98) 22 = .ok (.ifCond .eq 14, 3) by decide +kernel) (by decide), List.forall_mem_cons.mpr ⟨
  s_iload_n (k := 3) (show decode (cod 98) 25 = .ok (.iload_n 3, 1) by decide +kernel), List.forall_mem_cons.mpr ⟨
  s_iload_n (k := 2) (show decode (cod 98) 26 = .ok (.iload_n 2, 1) by decide +kernel), List.forall_mem_cons.mpr ⟨
  s_icmpne (show decode (cod 98) 27 = .ok (.if_icmp .ne 6, 3) by decide +kernel) (by decide), List.forall_mem_cons.mpr ⟨
  s_iload (k := 4) (show decode (cod 98) 30 = .ok (.iload 4, 2) by decide +kernel), List.forall_mem_cons.mpr ⟨
  s_ret (show decode (cod 98) 32 = .ok (.ireturn, 1) by decide +kernel) rI_ok (fun h => by cases h), List.forall_mem_cons.mpr ⟨
  s_iinc (show decode (cod 98) 33 = .ok (.iinc 3 1, 3) by decide +kernel) rfl, List.forall_mem_cons.mpr ⟨
  s_iinc (show decode (cod 98) 36 = .ok (.iinc 4 (-1), 3) by decide +kernel) rfl, List.forall_mem_cons.mpr ⟨
  s_goto (show decode (cod 98) 39 = .ok (.goto (-33), 3) by decide +kernel) (by decide), List.forall_mem_cons.mpr ⟨
  s_iconst (show decode (cod 98) 42 = .ok (.iconst (-1), 1) by decide +kernel) rfl, List.forall_mem_cons.mpr ⟨
  s_ret (show decode (cod 98) 43 = .ok (.ireturn, 1) by decide +kernel) rI_ok (fun h => by cases h), fun _ h => by cases h⟩⟩⟩⟩⟩⟩⟩⟩⟩⟩⟩⟩⟩⟩⟩⟩⟩⟩⟩⟩⟩⟩⟩⟩⟩
set_option maxRecDepth 100000 in
theorem si98 (X : CX) (l : Launch) : ∀ q ∈ pt98, SI X l 98 q.1 q.2 :=  si98_0 X l
set_option maxRecDepth 100000 in
set_option maxHeartbeats 4000000 in
theorem si99_0 (X : CX) (l : Launch) : ∀ q ∈ ([(0, iP 3 (fK (.inr (.inl 8640)))), (3, iP 4 (fLst 2)), (4, iP 5 (fJld 0)), (5, iP 8 (fMJ1 (fun x => if 0 < x then x else -x))), (8, iP 11 (fK (.inr (.inl 8640)))), (11, iRJ 12 (q2J (fun x y => x - x / y * y))), (12, iP 14 (fLst 4)), (14, iP 15 (fK (.inl 0))), (15, iP 17 (fIst 6)), (17, iP 19 (fIld 6)), (19, iP 21 (fK (.inl 64))), (21, iB 24 50 (b2 (fun x y => decide (y ≤ x)))), (24, iP 26 (fJld 4)), (26, iP 27 (fK (.inr (.inl 0)))), (27, iP 28 fLcmp), (28, iB 31 50 (b1 (fun x => decide (x = 0)))), (31, iP 32 (fJld 2)), (32, iP 34 (fJld 4)), (34, iRJ 35 (q2J (fun x y => x - x / y * y))), (35, iP 37 (fLst 7)), (37, iP 39 (fJld 4)), (39, iP 40 (fLst 2)), (40, iP 42 (fJld 7)), (42, iP 44 (fLst 4)), (44, iP 47 (fInc 6 1)), (47, iP 17 fGo), (50, iP 51 (fJld 2)), (51, iP 52 (fK (.inr (.inl 1)))), (52, iP 55 (fMJ2 (fun x y => if y < x then x else y))), (55, iRet rJ)] : List (Nat × AS)), SI X l 99 q.1 q.2 := List.forall_mem_cons.mpr ⟨
  s_ldc2 (show decode (cod 99) 0 = .ok (.ldc2_w 178, 3) by decide +kernel) wd_491, List.forall_mem_cons.mpr ⟨
  s_lstore_n (k := 2) (show decode (cod 99) 3 = .ok (.lstore_n 2, 1) by decide +kernel), List.forall_mem_cons.mpr ⟨
  s_lload_n (k := 0) (show decode (cod 99) 4 = .ok (.lload_n 0, 1) by decide +kernel), List.forall_mem_cons.mpr ⟨
  s_labs (show decode (cod 99) 5 = .ok (.invokestatic 236, 3) by decide +kernel) wd_492 wd_493 wd_432 wd_494 (by decide), List.forall_mem_cons.mpr ⟨
  s_ldc2 (show decode (cod 99) 8 = .ok (.ldc2_w 178, 3) by decide +kernel) wd_491, List.forall_mem_cons.mpr ⟨
  s_lrem (show decode (cod 99) 11 = .ok (.lrem, 1) by decide +kernel), List.forall_mem_cons.mpr ⟨
  s_lstore (k := 4) (show decode (cod 99) 12 = .ok (.lstore 4, 2) by decide +kernel), List.forall_mem_cons.mpr ⟨
  s_iconst (show decode (cod 99) 14 = .ok (.iconst 0, 1) by decide +kernel) rfl, List.forall_mem_cons.mpr ⟨
  s_istore (k := 6) (show decode (cod 99) 15 = .ok (.istore 6, 2) by decide +kernel), List.forall_mem_cons.mpr ⟨
  s_iload (k := 6) (show decode (cod 99) 17 = .ok (.iload 6, 2) by decide +kernel), List.forall_mem_cons.mpr ⟨
  s_bipush (show decode (cod 99) 19 = .ok (.bipush 64, 2) by decide +kernel) rfl, List.forall_mem_cons.mpr ⟨
  s_icmpge (show decode (cod 99) 21 = .ok (.if_icmp .ge 29, 3) by decide +kernel) (by decide), List.forall_mem_cons.mpr ⟨
  s_lload (k := 4) (show decode (cod 99) 24 = .ok (.lload 4, 2) by decide +kernel), List.forall_mem_cons.mpr ⟨
  s_lconst (show decode (cod 99) 26 = .ok (.lconst 0, 1) by decide +kernel) rfl, List.forall_mem_cons.mpr ⟨
  s_lcmp (show decode (cod 99) 27 = .ok (.lcmp, 1) by decide +kernel), List.forall_mem_cons.mpr ⟨
  s_ifeq (show decode (cod 99) 28 = .ok (.ifCond .eq 22, 3) by decide +kernel) (by decide), List.forall_mem_cons.mpr ⟨
  s_lload_n (k := 2) (show decode (cod 99) 31 = .ok (.lload_n 2, 1) by decide +kernel), List.forall_mem_cons.mpr ⟨
  s_lload (k := 4) (show decode (cod 99) 32 = .ok (.lload 4, 2) by decide +kernel), List.forall_mem_cons.mpr ⟨
  s_lrem (show decode (cod 99) 34 = .ok (.lrem, 1) by decide +kernel), List.forall_mem_cons.mpr ⟨
  s_lstore (k := 7) (show decode (cod 99) 35 = .ok (.lstore 7, 2) by decide +kernel), List.forall_mem_cons.mpr ⟨
  s_lload (k := 4) (show decode (cod 99) 37 = .ok (.lload 4, 2) by decide +kernel), List.forall_mem_cons.mpr ⟨
  s_lstore_n (k := 2) (show decode (cod 99) 39 = .ok (.lstore_n 2, 1) by decide +kernel), List.forall_mem_cons.mpr ⟨
  s_lload (k := 7) (show decode (cod 99) 40 = .ok (.lload 7, 2) by decide +kernel), List.forall_mem_cons.mpr ⟨
  s_lstore (k := 4) (show decode (cod 99) 42 = .ok (.lstore 4, 2) by decide +kernel), List.forall_mem_cons.mpr ⟨
  s_iinc (show decode (cod 99) 44 = .ok (.iinc 6 1, 3) by decide +kernel) rfl, List.forall_mem_cons.mpr ⟨
  s_goto (show decode (cod 99) 47 = .ok (.goto (-30), 3) by decide +kernel) (by decide), List.forall_mem_cons.mpr ⟨
  s_lload_n (k := 2) (show decode (cod 99) 50 = .ok (.lload_n 2, 1) by decide +kernel), List.forall_mem_cons.mpr ⟨
  s_lconst (show decode (cod 99) 51 = .ok (.lconst 1, 1) by decide +kernel) rfl, List.forall_mem_cons.mpr ⟨
  s_lmax (show decode (cod 99) 52 = .ok (.invokestatic 239, 3) by decide +kernel) wd_495 wd_440 wd_432 wd_441 (by decide), List.forall_mem_cons.mpr ⟨
  s_ret (show decode (cod 99) 55 = .ok (.lreturn, 1) by decide +kernel) rJ_ok (fun h => by cases h), fun _ h => by cases h⟩⟩⟩⟩⟩⟩⟩⟩⟩⟩⟩⟩⟩⟩⟩⟩⟩⟩⟩⟩⟩⟩⟩⟩⟩⟩⟩⟩⟩⟩
set_option maxRecDepth 100000 in
theorem si99 (X : CX) (l : Launch) : ∀ q ∈ pt99, SI X l 99 q.1 q.2 :=  si99_0 X l
set_option maxRecDepth 100000 in
set_option maxHeartbeats 4000000 in
theorem si101_0 (X : CX) (l : Launch) : ∀ q ∈ ([(0, iP 1 (fAld 0)), (1, iP 2 (fIld 1)), (2, iCK 5 11 15 2 2 3), (5, iP 7 (fAst 5)), (7, iP 9 (fAld 5)), (9, iB 12 34 bN), (12, iP 13 (fIld 2)), (13, iC 16 66 1 1 1), (16, iB 19 34 (b1 (fun x => decide (x = 0)))), (19, iP 20 (fIld 3)), (20, iC 23 102 1 1 1), (23, iB 26 34 (b1 (fun x => decide (x = 0)))), (26, iP 28 (fIld 4)), (28, iC 31 102 1 1 1), (31, iB 34 38 (b1 (fun x => decide (x ≠ 0)))), (34, iP 37 (fK (.inr (.inl (-1000001))))), (37, iRet rJ), (38, iP 39 (fAld 0)), (39, iP 41 (fAld 5)), (41, iP 42 (fIld 2)), (42, iCK 45 11 67 6 3 1), (45, iP 47 (fIst 6)), (47, iP 49 (fIld 6)), (49, iB 52 58 (b1 (fun x => decide (0 ≤ x)))), (52, iP 54 (fIld 6)), (54, iP 55 fI2l), (55, iP 67 fGo), (58, iP 60 (fAld 5)), (60, iP 61 (fIld 2)), (61, iP 62 (fIld 3)), (62, iP 64 (fIld 4)), (64, iCK 67 7 103 10 4 2), (67, iRet rJ)] : List (Nat × AS)), SI X l 101 q.1 q.2 := List.forall_mem_cons.mpr ⟨
  s_aload_n (k := 0) (show decode (cod 101) 0 = .ok (.aload_n 0, 1) by decide +kernel), List.forall_mem_cons.mpr ⟨
  s_iload_n (k := 1) (show decode (cod 101) 1 = .ok (.iload_n 1, 1) by decide +kernel), List.forall_mem_cons.mpr ⟨
  s_invK rfl (rcv_virt (show decode (cod 101) 2 = .ok (.invokevirtual 56, 3) by decide +kernel) cld_101_15 ⟨10, _, _, rfl, by decide, rfl⟩ wd_102 wd_103 wd_104), List.forall_mem_cons.mpr ⟨
  s_astore (k := 5) (show decode (cod 101) 5 = .ok (.astore 5, 2) by decide +kernel), List.forall_mem_cons.mpr ⟨
  s_aload (k := 5) (show decode (cod 101) 7 = .ok (.aload 5, 2) by decide +kernel), List.forall_mem_cons.mpr ⟨
  s_ifnull (show decode (cod 101) 9 = .ok (.ifnull 25, 3) by decide +kernel) (by decide), List.forall_mem_cons.mpr ⟨
  s_iload_n (k := 2) (show decode (cod 101) 12 = .ok (.iload_n 2, 1) by decide +kernel), List.forall_mem_cons.mpr ⟨
  s_invS (show decode (cod 101) 13 = .ok (.invokestatic 154, 3) by decide +kernel) rfl cld_101_66 wd_338 wd_339, List.forall_mem_cons.mpr ⟨
  s_ifeq (show decode (cod 101) 16 = .ok (.ifCond .eq 18, 3) by decide +kernel) (by decide), List.forall_mem_cons.mpr ⟨
  s_iload_n (k := 3) (show decode (cod 101) 19 = .ok (.iload_n 3, 1) by decide +kernel), List.forall_mem_cons.mpr ⟨
  s_invS (show decode (cod 101) 20 = .ok (.invokestatic 180, 3) by decide +kernel) rfl cld_101_102 wd_497 wd_498, List.forall_mem_cons.mpr ⟨
  s_ifeq (show decode (cod 101) 23 = .ok (.ifCond .eq 11, 3) by decide +kernel) (by decide), List.forall_mem_cons.mpr ⟨
  s_iload (k := 4) (show decode (cod 101) 26 = .ok (.iload 4, 2) by decide +kernel), List.forall_mem_cons.mpr ⟨
  s_invS (show decode (cod 101) 28 = .ok (.invokestatic 180, 3) by decide +kernel) rfl cld_101_102 wd_497 wd_498, List.forall_mem_cons.mpr ⟨
  s_ifne (show decode (cod 101) 31 = .ok (.ifCond .ne 7, 3) by decide +kernel) (by decide), List.forall_mem_cons.mpr ⟨
  s_ldc2 (show decode (cod 101) 34 = .ok (.ldc2_w 164, 3) by decide +kernel) wd_482, List.forall_mem_cons.mpr ⟨
  s_ret (show decode (cod 101) 37 = .ok (.lreturn, 1) by decide +kernel) rJ_ok (fun h => by cases h), List.forall_mem_cons.mpr ⟨
  s_aload_n (k := 0) (show decode (cod 101) 38 = .ok (.aload_n 0, 1) by decide +kernel), List.forall_mem_cons.mpr ⟨
  s_aload (k := 5) (show decode (cod 101) 39 = .ok (.aload 5, 2) by decide +kernel), List.forall_mem_cons.mpr ⟨
  s_iload_n (k := 2) (show decode (cod 101) 41 = .ok (.iload_n 2, 1) by decide +kernel), List.forall_mem_cons.mpr ⟨
  s_invK rfl (rcv_virt (show decode (cod 101) 42 = .ok (.invokevirtual 157, 3) by decide +kernel) cld_101_67 ⟨10, _, _, rfl, by decide, rfl⟩ wd_341 wd_342 wd_343), List.forall_mem_cons.mpr ⟨
  s_istore (k := 6) (show decode (cod 101) 45 = .ok (.istore 6, 2) by decide +kernel), List.forall_mem_cons.mpr ⟨
  s_iload (k := 6) (show decode (cod 101) 47 = .ok (.iload 6, 2) by decide +kernel), List.forall_mem_cons.mpr ⟨
  s_ifge (show decode (cod 101) 49 = .ok (.ifCond .ge 9, 3) by decide +kernel) (by decide), List.forall_mem_cons.mpr ⟨
  s_iload (k := 6) (show decode (cod 101) 52 = .ok (.iload 6, 2) by decide +kernel), List.forall_mem_cons.mpr ⟨
  s_i2l (show decode (cod 101) 54 = .ok (.i2l, 1) by decide +kernel), List.forall_mem_cons.mpr ⟨
  s_goto (show decode (cod 101) 55 = .ok (.goto 12, 3) by decide +kernel) (by decide), List.forall_mem_cons.mpr ⟨
  s_aload (k := 5) (show decode (cod 101) 58 = .ok (.aload 5, 2) by decide +kernel), List.forall_mem_cons.mpr ⟨
  s_iload_n (k := 2) (show decode (cod 101) 60 = .ok (.iload_n 2, 1) by decide +kernel), List.forall_mem_cons.mpr ⟨
  s_iload_n (k := 3) (show decode (cod 101) 61 = .ok (.iload_n 3, 1) by decide +kernel), List.forall_mem_cons.mpr ⟨
  s_iload (k := 4) (show decode (cod 101) 62 = .ok (.iload 4, 2) by decide +kernel), List.forall_mem_cons.mpr ⟨
  s_invK rfl (rcv_virt (show decode (cod 101) 64 = .ok (.invokevirtual 183, 3) by decide +kernel) cld_101_103 ⟨6, _, _, rfl, by decide, rfl⟩ wd_500 wd_501 wd_502), List.forall_mem_cons.mpr ⟨
  s_ret (show decode (cod 101) 67 = .ok (.lreturn, 1) by decide +kernel) rJ_ok (fun h => by cases h), fun _ h => by cases h⟩⟩⟩⟩⟩⟩⟩⟩⟩⟩⟩⟩⟩⟩⟩⟩⟩⟩⟩⟩⟩⟩⟩⟩⟩⟩⟩⟩⟩⟩⟩⟩⟩
set_option maxRecDepth 100000 in
theorem si101 (X : CX) (l : Launch) : ∀ q ∈ pt101, SI X l 101 q.1 q.2 :=  si101_0 X l
set_option maxRecDepth 100000 in
set_option maxHeartbeats 4000000 in
theorem si102_0 (X : CX) (l : Launch) : ∀ q ∈ ([(0, iP 1 (fIld 0)), (1, iB 4 14 (b1 (fun x => decide (x < 0)))), (4, iP 5 (fIld 0)), (5, iP 7 (fK (.inl 20))), (7, iB 10 14 (b2 (fun x y => decide (y < x)))), (10, iP 11 (fK (.inl 1))), (11, iP 15 fGo), (14, iP 15 (fK (.inl 0))), (15, iRet rZ)] : List (Nat × AS)), SI X l 102 q.1 q.2 := List.forall_mem_cons.mpr ⟨
  s_iload_n (k := 0) (show decode (cod 102) 0 = .ok (.iload_n 0, 1) by decide +kernel), List.forall_mem_cons.mpr ⟨
  s_iflt (show decode (cod 102) 1 = .ok (.ifCond .lt 13, 3) by decide +kernel) (by decide), List.forall_mem_cons.mpr ⟨
  s_iload_n (k := 0) (show decode (cod 102) 4 = .ok (.iload_n 0, 1) by decide +kernel), List.forall_mem_cons.mpr ⟨
  s_bipush (show decode (cod 102) 5 = .ok (.bipush 20, 2) by decide +kernel) rfl, List.forall_mem_cons.mpr ⟨
  s_icmpgt (show decode (cod 102) 7 = .ok (.if_icmp .gt 7, 3) by decide +kernel) (by decide), List.forall_mem_cons.mpr ⟨
  s_iconst (show decode (cod 102) 10 = .ok (.iconst 1, 1) by decide +kernel) rfl, List.forall_mem_cons.mpr ⟨
  s_goto (show decode (cod 102) 11 = .ok (.goto 4, 3) by decide +kernel) (by decide), List.forall_mem_cons.mpr ⟨
  s_iconst (show decode (cod 102) 14 = .ok (.iconst 0, 1) by decide +kernel) rfl, List.forall_mem_cons.mpr ⟨
  s_ret (show decode (cod 102) 15 = .ok (.ireturn, 1) by decide +kernel) rZ_ok (fun _ => rZ_b), fun _ h => by cases h⟩⟩⟩⟩⟩⟩⟩⟩⟩
set_option maxRecDepth 100000 in
theorem si102 (X : CX) (l : Launch) : ∀ q ∈ pt102, SI X l 102 q.1 q.2 :=  si102_0 X l
set_option maxRecDepth 100000 in
set_option maxHeartbeats 4000000 in
theorem si103_0 (X : CX) (l : Launch) : ∀ q ∈ ([(0, iP 1 (fK (.inr (.inl 0)))), (1, iP 3 (fLst 4)), (3, iP 4 (fK (.inl 5))), (4, iP 6 (fIst 6)), (6, iP 8 (fIld 6)), (8, iB 11 67 (b1 (fun x => decide (x < 0)))), (11, iP 12 (fK (.inr (.inl 0)))), (12, iP 14 (fLst 7)), (14, iP 15 (fK (.inl 5))), (15, iP 17 (fIst 9)), (17, iP 19 (fIld 9)), (19, iB 22 51 (b1 (fun x => decide (x < 0)))), (22, iP 24 (fJld 7)), (24, iP 25 (fIld 3)), (25, iP 26 fI2l), (26, iP 27 (f2J (fun x y => x * y))), (27, iP 28 (fAld 0)), (28, iRR 31 (gtR 27)), (31, iP 32 (fIld 1)), (32, iRR 33 qAR), (33, iP 35 (fIld 6)), (35, iP 37 (fK (.inl 6))), (37, iP 38 (f2I (fun x y => x * y))), (38, iP 40 (fIld 9)), (40, iP 41 (f2I (fun x y => x + y))), (41, iRJ 42 qAJ), (42, iP 43 (f2J (fun x y => x + y))), (43, iP 45 (fLst 7)), (45, iP 48 (fInc 9 (-1))), (48, iP 17 fGo), (51, iP 53 (fJld 4)), (53, iP 54 (fIld 2)), (54, iP 55 fI2l), (55, iP 56 (f2J (fun x y => x * y))), (56, iP 58 (fJld 7)), (58, iP 59 (f2J (fun x y => x + y))), (59, iP 61 (fLst 4)), (61, iP 64 (fInc 6 (-1))), (64, iP 6 fGo), (67, iP 68 (fIld 1))] : List (Nat × AS)), SI X l 103 q.1 q.2 := List.forall_mem_cons.mpr ⟨
  s_lconst (show decode (cod 103) 0 = .ok (.lconst 0, 1) by decide +kernel) rfl, List.forall_mem_cons.mpr ⟨
  s_lstore (k := 4) (show decode (cod 103) 1 = .ok (.lstore 4, 2) by decide +kernel), List.forall_mem_cons.mpr ⟨
  s_iconst (show decode (cod 103) 3 = .ok (.iconst 5, 1) by decide +kernel) rfl, List.forall_mem_cons.mpr ⟨
  s_istore (k := 6) (show decode (cod 103) 4 = .ok (.istore 6, 2) by decide +kernel), List.forall_mem_cons.mpr ⟨
  s_iload (k := 6) (show decode (cod 103) 6 = .ok (.iload 6, 2) by decide +kernel), List.forall_mem_cons.mpr ⟨
  s_iflt (show decode (cod 103) 8 = .ok (.ifCond .lt 59, 3) by decide +kernel) (by decide), List.forall_mem_cons.mpr ⟨
  s_lconst (show decode (cod 103) 11 = .ok (.lconst 0, 1) by decide +kernel) rfl, List.forall_mem_cons.mpr ⟨
  s_lstore (k := 7) (show decode (cod 103) 12 = .ok (.lstore 7, 2) by decide +kernel), List.forall_mem_cons.mpr ⟨
  s_iconst (show decode (cod 103) 14 = .ok (.iconst 5, 1) by decide +kernel) rfl, List.forall_mem_cons.mpr ⟨
  s_istore (k := 9) (show decode (cod 103) 15 = .ok (.istore 9, 2) by decide +kernel), List.forall_mem_cons.mpr ⟨
  s_iload (k := 9) (show decode (cod 103) 17 = .ok (.iload 9, 2) by decide +kernel), List.forall_mem_cons.mpr ⟨
  s_iflt (show decode (cod 103) 19 = .ok (.ifCond .lt 32, 3) by decide +kernel) (by decide), List.forall_mem_cons.mpr ⟨
  s_lload (k := 7) (show decode (cod 103) 22 = .ok (.lload 7, 2) by decide +kernel), List.forall_mem_cons.mpr ⟨
  s_iload_n (k := 3) (show decode (cod 103) 24 = .ok (.iload_n 3, 1) by decide +kernel), List.forall_mem_cons.mpr ⟨
  s_i2l (show decode (cod 103) 25 = .ok (.i2l, 1) by decide +kernel), List.forall_mem_cons.mpr ⟨
  s_lmul (show decode (cod 103) 26 = .ok (.lmul, 1) by decide +kernel), List.forall_mem_cons.mpr ⟨
  s_aload_n (k := 0) (show decode (cod 103) 27 = .ok (.aload_n 0, 1) by decide +kernel), List.forall_mem_cons.mpr ⟨
  s_getR (show decode (cod 103) 28 = .ok (.getfield 33, 3) by decide +kernel) wd_88 (Or.inl rfl) rfl, List.forall_mem_cons.mpr ⟨
  s_iload_n (k := 1) (show decode (cod 103) 31 = .ok (.iload_n 1, 1) by decide +kernel), List.forall_mem_cons.mpr ⟨
  s_aaload (show decode (cod 103) 32 = .ok (.aaload, 1) by decide +kernel), List.forall_mem_cons.mpr ⟨
  s_iload (k := 6) (show decode (cod 103) 33 = .ok (.iload 6, 2) by decide +kernel), List.forall_mem_cons.mpr ⟨
  s_bipush (show decode (cod 103) 35 = .ok (.bipush 6, 2) by decide +kernel) rfl, List.forall_mem_cons.mpr ⟨
  s_imul (show decode (cod 103) 37 = .ok (.imul, 1) by decide +kernel), List.forall_mem_cons.mpr ⟨
  s_iload (k := 9) (show decode (cod 103) 38 = .ok (.iload 9, 2) by decide +kernel), List.forall_mem_cons.mpr ⟨
  s_iadd (show decode (cod 103) 40 = .ok (.iadd, 1) by decide +kernel), List.forall_mem_cons.mpr ⟨
  s_laload (show decode (cod 103) 41 = .ok (.laload, 1) by decide +kernel), List.forall_mem_cons.mpr ⟨
  s_ladd (show decode (cod 103) 42 = .ok (.ladd, 1) by decide +kernel), List.forall_mem_cons.mpr ⟨
  s_lstore (k := 7) (show decode (cod 103) 43 = .ok (.lstore 7, 2) by decide +kernel), List.forall_mem_cons.mpr ⟨
  s_iinc (show decode (cod 103) 45 = .ok (.iinc 9 (-1), 3) by decide +kernel) rfl, List.forall_mem_cons.mpr ⟨
  s_goto (show decode (cod 103) 48 = .ok (.goto (-31), 3) by decide +kernel) (by decide), List.forall_mem_cons.mpr ⟨
  s_lload (k := 4) (show decode (cod 103) 51 = .ok (.lload 4, 2) by decide +kernel), List.forall_mem_cons.mpr ⟨
  s_iload_n (k := 2) (show decode (cod 103) 53 = .ok (.iload_n 2, 1) by decide +kernel), List.forall_mem_cons.mpr ⟨
  s_i2l (show decode (cod 103) 54 = .ok (.i2l, 1) by decide +kernel), List.forall_mem_cons.mpr ⟨
  s_lmul (show decode (cod 103) 55 = .ok (.lmul, 1) by decide +kernel), List.forall_mem_cons.mpr ⟨
  s_lload (k := 7) (show decode (cod 103) 56 = .ok (.lload 7, 2) by decide +kernel), List.forall_mem_cons.mpr ⟨
  s_ladd (show decode (cod 103) 58 = .ok (.ladd, 1) by decide +kernel), List.forall_mem_cons.mpr ⟨
  s_lstore (k := 4) (show decode (cod 103) 59 = .ok (.lstore 4, 2) by decide +kernel), List.forall_mem_cons.mpr ⟨
  s_iinc (show decode (cod 103) 61 = .ok (.iinc 6 (-1), 3) by decide +kernel) rfl, List.forall_mem_cons.mpr ⟨
  s_goto (show decode (cod 103) 64 = .ok (.goto (-58), 3) by decide +kernel) (by decide), List.forall_mem_cons.mpr ⟨
  s_iload_n (k := 1) (show decode (cod 103) 67 = .ok (.iload_n 1, 1) by decide +kernel), fun _ h => by cases h⟩⟩⟩⟩⟩⟩⟩⟩⟩⟩⟩⟩⟩⟩⟩⟩⟩⟩⟩⟩⟩⟩⟩⟩⟩⟩⟩⟩⟩⟩⟩⟩⟩⟩⟩⟩⟩⟩⟩⟩
set_option maxRecDepth 100000 in
set_option maxHeartbeats 4000000 in
theorem si103_1 (X : CX) (l : Launch) : ∀ q ∈ ([(68, iP 69 (fK (.inl 1))), (69, iB 72 83 (b2 (fun x y => decide (x ≠ y)))), (72, iP 74 (fJld 4)), (74, iP 77 (fK (.inr (.inl 8640)))), (77, iC 80 104 6 2 2), (80, iP 93 fGo), (83, iP 85 (fJld 4)), (85, iP 86 fLneg), (86, iP 89 (fK (.inr (.inl 8640)))), (89, iC 92 104 6 2 2), (92, iP 93 fLneg), (93, iRet rJ)] : List (Nat × AS)), SI X l 103 q.1 q.2 := List.forall_mem_cons.mpr ⟨
  s_iconst (show decode (cod 103) 68 = .ok (.iconst 1, 1) by decide +kernel) rfl, List.forall_mem_cons.mpr ⟨
  s_icmpne (show decode (cod 103) 69 = .ok (.if_icmp .ne 14, 3) by decide +kernel) (by decide), List.forall_mem_cons.mpr ⟨
  s_lload (k := 4) (show decode (cod 103) 72 = .ok (.lload 4, 2) by decide +kernel), List.forall_mem_cons.mpr ⟨
  s_ldc2 (show decode (cod 103) 74 = .ok (.ldc2_w 91, 3) by decide +kernel) wd_503, List.forall_mem_cons.mpr ⟨
  s_invS (show decode (cod 103) 77 = .ok (.invokestatic 93, 3) by decide +kernel) rfl cld_103_104 wd_505 wd_506, List.forall_mem_cons.mpr ⟨
  s_goto (show decode (cod 103) 80 = .ok (.goto 13, 3) by decide +kernel) (by decide), List.forall_mem_cons.mpr ⟨
  s_lload (k := 4) (show decode (cod 103) 83 = .ok (.lload 4, 2) by decide +kernel), List.forall_mem_cons.mpr ⟨
  s_lneg (show decode (cod 103) 85 = .ok (.lneg, 1) by decide +kernel), List.forall_mem_cons.mpr ⟨
  s_ldc2 (show decode (cod 103) 86 = .ok (.ldc2_w 91, 3) by decide +kernel) wd_503, List.forall_mem_cons.mpr ⟨
  s_invS (show decode (cod 103) 89 = .ok (.invokestatic 93, 3) by decide +kernel) rfl cld_103_104 wd_505 wd_506, List.forall_mem_cons.mpr ⟨
  s_lneg (show decode (cod 103) 92 = .ok (.lneg, 1) by decide +kernel), List.forall_mem_cons.mpr ⟨
  s_ret (show decode (cod 103) 93 = .ok (.lreturn, 1) by decide +kernel) rJ_ok (fun h => by cases h), fun _ h => by cases h⟩⟩⟩⟩⟩⟩⟩⟩⟩⟩⟩⟩
set_option maxRecDepth 100000 in
theorem si103 (X : CX) (l : Launch) : ∀ q ∈ pt103, SI X l 103 q.1 q.2 := (List.forall_mem_append (l₁ := _) (l₂ := _)).mpr ⟨si103_0 X l, si103_1 X l⟩
set_option maxRecDepth 100000 in
set_option maxHeartbeats 4000000 in
theorem si104_0 (X : CX) (l : Launch) : ∀ q ∈ ([(0, iP 1 (fJld 0)), (1, iP 2 (fJld 2)), (2, iRJ 3 (q2J (fun x y => x / y))), (3, iP 5 (fLst 4)), (5, iP 6 (fJld 0)), (6, iP 7 (fJld 2)), (7, iP 8 (f2J (fun x y => x ^^^ y))), (8, iP 9 (fK (.inr (.inl 0)))), (9, iP 10 fLcmp), (10, iB 13 27 (b1 (fun x => decide (0 ≤ x)))), (13, iP 15 (fJld 4)), (15, iP 16 (fJld 2)), (16, iP 17 (f2J (fun x y => x * y))), (17, iP 18 (fJld 0)), (18, iP 19 fLcmp), (19, iB 22 27 (b1 (fun x => decide (x = 0)))), (22, iP 24 (fJld 4)), (24, iP 25 (fK (.inr (.inl 1)))), (25, iP 26 (f2J (fun x y => x - y))), (26, iRet rJ), (27, iP 29 (fJld 4)), (29, iRet rJ)] : List (Nat × AS)), SI X l 104 q.1 q.2 := List.forall_mem_cons.mpr ⟨
  s_lload_n (k := 0) (show decode (cod 104) 0 = .ok (.lload_n 0, 1) by decide +kernel), List.forall_mem_cons.mpr ⟨
  s_lload_n (k := 2) (show decode (cod 104) 1 = .ok (.lload_n 2, 1) by decide +kernel), List.forall_mem_cons.mpr ⟨
  s_ldiv (show decode (cod 104) 2 = .ok (.ldiv, 1) by decide +kernel), List.forall_mem_cons.mpr ⟨
  s_lstore (k := 4) (show decode (cod 104) 3 = .ok (.lstore 4, 2) by decide +kernel), List.forall_mem_cons.mpr ⟨
  s_lload_n (k := 0) (show decode (cod 104) 5 = .ok (.lload_n 0, 1) by decide +kernel), List.forall_mem_cons.mpr ⟨
  s_lload_n (k := 2) (show decode (cod 104) 6 = .ok (.lload_n 2, 1) by decide +kernel), List.forall_mem_cons.mpr ⟨
  s_lxor (show decode (cod 104) 7 = .ok (.lxor, 1) by decide +kernel), List.forall_mem_cons.mpr ⟨
  s_lconst (show decode (cod 104) 8 = .ok (.lconst 0, 1) by decide +kernel) rfl, List.forall_mem_cons.mpr ⟨
  s_lcmp (show decode (cod 104) 9 = .ok (.lcmp, 1) by decide +kernel), List.forall_mem_cons.mpr ⟨
  s_ifge (show decode (cod 104) 10 = .ok (.ifCond .ge 17, 3) by decide +kernel) (by decide), List.forall_mem_cons.mpr ⟨
  s_lload (k := 4) (show decode (cod 104) 13 = .ok (.lload 4, 2) by decide +kernel), List.forall_mem_cons.mpr ⟨
  s_lload_n (k := 2) (show decode (cod 104) 15 = .ok (.lload_n 2, 1) by decide +kernel), List.forall_mem_cons.mpr ⟨
  s_lmul (show decode (cod 104) 16 = .ok (.lmul, 1) by decide +kernel), List.forall_mem_cons.mpr ⟨
  s_lload_n (k := 0) (show decode (cod 104) 17 = .ok (.lload_n 0, 1) by decide +kernel), List.forall_mem_cons.mpr ⟨
  s_lcmp (show decode (cod 104) 18 = .ok (.lcmp, 1) by decide +kernel), List.forall_mem_cons.mpr ⟨
  s_ifeq (show decode (cod 104) 19 = .ok (.ifCond .eq 8, 3) by decide +kernel) (by decide), List.forall_mem_cons.mpr ⟨
  s_lload (k := 4) (show decode (cod 104) 22 = .ok (.lload 4, 2) by decide +kernel), List.forall_mem_cons.mpr ⟨
  s_lconst (show decode (cod 104) 24 = .ok (.lconst 1, 1) by decide +kernel) rfl, List.forall_mem_cons.mpr ⟨
  s_lsub (show decode (cod 104) 25 = .ok (.lsub, 1) by decide +kernel), List.forall_mem_cons.mpr ⟨
  s_ret (show decode (cod 104) 26 = .ok (.lreturn, 1) by decide +kernel) rJ_ok (fun h => by cases h), List.forall_mem_cons.mpr ⟨
  s_lload (k := 4) (show decode (cod 104) 27 = .ok (.lload 4, 2) by decide +kernel), List.forall_mem_cons.mpr ⟨
  s_ret (show decode (cod 104) 29 = .ok (.lreturn, 1) by decide +kernel) rJ_ok (fun h => by cases h), fun _ h => by cases h⟩⟩⟩⟩⟩⟩⟩⟩⟩⟩⟩⟩⟩⟩⟩⟩⟩⟩⟩⟩⟩⟩
set_option maxRecDepth 100000 in
theorem si104 (X : CX) (l : Launch) : ∀ q ∈ pt104, SI X l 104 q.1 q.2 :=  si104_0 X l
set_option maxRecDepth 100000 in
set_option maxHeartbeats 4000000 in
theorem si105_0 (X : CX) (l : Launch) : ∀ q ∈ ([(0, iP 1 (fAld 0)), (1, iP 2 (fIld 1)), (2, iCK 5 11 15 2 2 3), (5, iP 6 (fAst 2)), (6, iP 7 (fAld 2)), (7, iB 10 13 bNN), (10, iP 12 (fK (.inl (-1000001)))), (12, iRet rI), (13, iP 14 (fAld 0)), (14, iP 15 (fAld 2)), (15, iP 16 (fK (.inl 0))), (16, iCK 19 11 67 6 3 1), (19, iP 20 (fAld 0)), (20, iP 21 (fAld 2)), (21, iP 22 (fK (.inl 1))), (22, iCK 25 11 67 6 3 1), (25, iP 28 (fM2 (fun x y => if y < x then y else x))), (28, iP 29 (fIst 3)), (29, iP 30 (fIld 3)), (30, iB 33 35 (b1 (fun x => decide (0 ≤ x)))), (33, iP 34 (fIld 3)), (34, iRet rI), (35, iP 36 (fAld 2)), (36, iCK 39 7 106 2 1 1), (39, iB 42 46 (b1 (fun x => decide (x = 0)))), (42, iP 43 (fK (.inl 1))), (43, iP 47 fGo), (46, iP 47 (fK (.inl 0))), (47, iRet rI)] : List (Nat × AS)), SI X l 105 q.1 q.2 := List.forall_mem_cons.mpr ⟨
  s_aload_n (k := 0) (show decode (cod 105) 0 = .ok (.aload_n 0, 1) by decide +kernel), List.forall_mem_cons.mpr ⟨
  s_iload_n (k := 1) (show decode (cod 105) 1 = .ok (.iload_n 1, 1) by decide +kernel), List.forall_mem_cons.mpr ⟨
  s_invK rfl (rcv_virt (show decode (cod 105) 2 = .ok (.invokevirtual 56, 3) by decide +kernel) cld_105_15 ⟨10, _, _, rfl, by decide, rfl⟩ wd_102 wd_103 wd_104), List.forall_mem_cons.mpr ⟨
  s_astore_n (k := 2) (show decode (cod 105) 5 = .ok (.astore_n 2, 1) by decide +kernel), List.forall_mem_cons.mpr ⟨
  s_aload_n (k := 2) (show decode (cod 105) 6 = .ok (.aload_n 2, 1) by decide +kernel), List.forall_mem_cons.mpr ⟨
  s_ifnonnull (show decode (cod 105) 7 = .ok (.ifnonnull 6, 3) by decide +kernel) (by decide), List.forall_mem_cons.mpr ⟨
  s_ldc (show decode (cod 105) 10 = .ok (.ldc 55, 2) by decide +kernel) wd_100, List.forall_mem_cons.mpr ⟨
  s_ret (show decode (cod 105) 12 = .ok (.ireturn, 1) by decide +kernel) rI_ok (fun h => by cases h), List.forall_mem_cons.mpr ⟨
  s_aload_n (k := 0) (show decode (cod 105) 13 = .ok (.aload_n 0, 1) by decide +kernel), List.forall_mem_cons.mpr ⟨
  s_aload_n (k := 2) (show decode (cod 105) 14 = .ok (.aload_n 2, 1) by decide +kernel), List.forall_mem_cons.mpr ⟨
  s_iconst (show decode (cod 105) 15 = .ok (.iconst 0, 1) by decide +kernel) rfl, List.forall_mem_cons.mpr ⟨
  s_invK rfl (rcv_virt (show decode (cod 105) 16 = .ok (.invokevirtual 157, 3) by decide +kernel) cld_105_67 ⟨10, _, _, rfl, by decide, rfl⟩ wd_341 wd_342 wd_343), List.forall_mem_cons.mpr ⟨
  s_aload_n (k := 0) (show decode (cod 105) 19 = .ok (.aload_n 0, 1) by decide +kernel), List.forall_mem_cons.mpr ⟨
  s_aload_n (k := 2) (show decode (cod 105) 20 = .ok (.aload_n 2, 1) by decide +kernel), List.forall_mem_cons.mpr ⟨
  s_iconst (show decode (cod 105) 21 = .ok (.iconst 1, 1) by decide +kernel) rfl, List.forall_mem_cons.mpr ⟨
  s_invK rfl (rcv_virt (show decode (cod 105) 22 = .ok (.invokevirtual 157, 3) by decide +kernel) cld_105_67 ⟨10, _, _, rfl, by decide, rfl⟩ wd_341 wd_342 wd_343), List.forall_mem_cons.mpr ⟨
  s_mmin (show decode (cod 105) 25 = .ok (.invokestatic 187, 3) by decide +kernel) wd_507 wd_435 wd_432 wd_436 (by decide), List.forall_mem_cons.mpr ⟨
  s_istore_n (k := 3) (show decode (cod 105) 28 = .ok (.istore_n 3, 1) by decide +kernel), List.forall_mem_cons.mpr ⟨
  s_iload_n (k := 3) (show decode (cod 105) 29 = .ok (.iload_n 3, 1) by decide +kernel), List.forall_mem_cons.mpr ⟨
  s_ifge (show decode (cod 105) 30 = .ok (.ifCond .ge 5, 3) by decide +kernel) (by decide), List.forall_mem_cons.mpr ⟨
  s_iload_n (k := 3) (show decode (cod 105) 33 = .ok (.iload_n 3, 1) by decide +kernel), List.forall_mem_cons.mpr ⟨
  s_ret (show decode (cod 105) 34 = .ok (.ireturn, 1) by decide +kernel) rI_ok (fun h => by cases h), List.forall_mem_cons.mpr ⟨
  s_aload_n (k := 2) (show decode (cod 105) 35 = .ok (.aload_n 2, 1) by decide +kernel), List.forall_mem_cons.mpr ⟨
  s_invK rfl (rcv_virt (show decode (cod 105) 36 = .ok (.invokevirtual 192, 3) by decide +kernel) cld_105_106 ⟨6, _, _, rfl, by decide, rfl⟩ wd_509 wd_510 wd_511), List.forall_mem_cons.mpr ⟨
  s_ifeq (show decode (cod 105) 39 = .ok (.ifCond .eq 7, 3) by decide +kernel) (by decide), List.forall_mem_cons.mpr ⟨
  s_iconst (show decode (cod 105) 42 = .ok (.iconst 1, 1) by decide +kernel) rfl, List.forall_mem_cons.mpr ⟨
  s_goto (show decode (cod 105) 43 = .ok (.goto 4, 3) by decide +kernel) (by decide), List.forall_mem_cons.mpr ⟨
  s_iconst (show decode (cod 105) 46 = .ok (.iconst 0, 1) by decide +kernel) rfl, List.forall_mem_cons.mpr ⟨
  s_ret (show decode (cod 105) 47 = .ok (.ireturn, 1) by decide +kernel) rI_ok (fun h => by cases h), fun _ h => by cases h⟩⟩⟩⟩⟩⟩⟩⟩⟩⟩⟩⟩⟩⟩⟩⟩⟩⟩⟩⟩⟩⟩⟩⟩⟩⟩⟩⟩⟩
set_option maxRecDepth 100000 in
theorem si105 (X : CX) (l : Launch) : ∀ q ∈ pt105, SI X l 105 q.1 q.2 :=  si105_0 X l
set_option maxRecDepth 100000 in
set_option maxHeartbeats 4000000 in
theorem si106_0 (X : CX) (l : Launch) : ∀ q ∈ ([(0, iP 1 (fK (.inl 0))), (1, iP 2 (fIst 1)), (2, iP 3 (fIld 1)), (3, iP 5 (fK (.inl 36))), (5, iB 8 36 (b2 (fun x y => decide (y ≤ x)))), (8, iP 9 (fAld 0)), (9, iRR 12 (gtR 27)), (12, iP 13 (fK (.inl 0))), (13, iRR 14 qAR), (14, iP 15 (fIld 1)), (15, iRJ 16 qAJ), (16, iP 17 (fAld 0)), (17, iRR 20 (gtR 27)), (20, iP 21 (fK (.inl 1))), (21, iRR 22 qAR), (22, iP 23 (fIld 1)), (23, iRJ 24 qAJ), (24, iP 25 fLcmp), (25, iB 28 30 (b1 (fun x => decide (x = 0)))), (28, iP 29 (fK (.inl 0))), (29, iRet rZ), (30, iP 33 (fInc 1 1)), (33, iP 2 fGo), (36, iP 37 (fK (.inl 1))), (37, iRet rZ)] : List (Nat × AS)), SI X l 106 q.1 q.2 := List.forall_mem_cons.mpr ⟨
  s_iconst (show decode (cod 106) 0 = .ok (.iconst 0, 1) by decide +kernel) rfl, List.forall_mem_cons.mpr ⟨
  s_istore_n (k := 1) (show decode (cod 106) 1 = .ok (.istore_n 1, 1) by decide +kernel), List.forall_mem_cons.mpr ⟨
  s_iload_n (k := 1) (show decode (cod 106) 2 = .ok (.iload_n 1, 1) by decide +kernel), List.forall_mem_cons.mpr ⟨
  s_bipush (show decode (cod 106) 3 = .ok (.bipush 36, 2) by decide +kernel) rfl, List.forall_mem_cons.mpr ⟨
  s_icmpge (show decode (cod 106) 5 = .ok (.if_icmp .ge 31, 3) by decide +kernel) (by decide), List.forall_mem_cons.mpr ⟨
  s_aload_n (k := 0) (show decode (cod 106) 8 = .ok (.aload_n 0, 1) by decide +kernel), List.forall_mem_cons.mpr ⟨
  s_getR (show decode (cod 106) 9 = .ok (.getfield 33, 3) by decide +kernel) wd_88 (Or.inl rfl) rfl, List.forall_mem_cons.mpr ⟨
  s_iconst (show decode (cod 106) 12 = .ok (.iconst 0, 1) by decide +kernel) rfl, List.forall_mem_cons.mpr ⟨
  s_aaload (show decode (cod 106) 13 = .ok (.aaload, 1) by decide +kernel), List.forall_mem_cons.mpr ⟨
  s_iload_n (k := 1) (show decode (cod 106) 14 = .ok (.iload_n 1, 1) by decide +kernel), List.forall_mem_cons.mpr ⟨
  s_laload (show decode (cod 106) 15 = .ok (.laload, 1) by decide +kernel), List.forall_mem_cons.mpr ⟨
  s_aload_n (k := 0) (show decode (cod 106) 16 = .ok (.aload_n 0, 1) by decide +kernel), List.forall_mem_cons.mpr ⟨
  s_getR (show decode (cod 106) 17 = .ok (.getfield 33, 3) by decide +kernel) wd_88 (Or.inl rfl) rfl, List.forall_mem_cons.mpr ⟨
  s_iconst (show decode (cod 106) 20 = .ok (.iconst 1, 1) by decide +kernel) rfl, List.forall_mem_cons.mpr ⟨
  s_aaload (show decode (cod 106) 21 = .ok (.aaload, 1) by decide +kernel), List.forall_mem_cons.mpr ⟨
  s_iload_n (k := 1) (show decode (cod 106) 22 = .ok (.iload_n 1, 1) by decide +kernel), List.forall_mem_cons.mpr ⟨
  s_laload (show decode (cod 106) 23 = .ok (.laload, 1) by decide +kernel), List.forall_mem_cons.mpr ⟨
  s_lcmp (show decode (cod 106) 24 = .ok (.lcmp, 1) by decide +kernel), List.forall_mem_cons.mpr ⟨
  s_ifeq (show decode (cod 106) 25 = .ok (.ifCond .eq 5, 3) by decide +kernel) (by decide), List.forall_mem_cons.mpr ⟨
  s_iconst (show decode (cod 106) 28 = .ok (.iconst 0, 1) by decide +kernel) rfl, List.forall_mem_cons.mpr ⟨
  s_ret (show decode (cod 106) 29 = .ok (.ireturn, 1) by decide +kernel) rZ_ok (fun _ => rZ_b), List.forall_mem_cons.mpr ⟨
  s_iinc (show decode (cod 106) 30 = .ok (.iinc 1 1, 3) by decide +kernel) rfl, List.forall_mem_cons.mpr ⟨
  s_goto (show decode (cod 106) 33 = .ok (.goto (-31), 3) by decide +kernel) (by decide), List.forall_mem_cons.mpr ⟨
  s_iconst (show decode (cod 106) 36 = .ok (.iconst 1, 1) by decide +kernel) rfl, List.forall_mem_cons.mpr ⟨
  s_ret (show decode (cod 106) 37 = .ok (.ireturn, 1) by decide +kernel) rZ_ok (fun _ => rZ_b), fun _ h => by cases h⟩⟩⟩⟩⟩⟩⟩⟩⟩⟩⟩⟩⟩⟩⟩⟩⟩⟩⟩⟩⟩⟩⟩⟩⟩
set_option maxRecDepth 100000 in
theorem si106 (X : CX) (l : Launch) : ∀ q ∈ pt106, SI X l 106 q.1 q.2 :=  si106_0 X l
set_option maxRecDepth 100000 in
set_option maxHeartbeats 4000000 in
theorem si107_0 (X : CX) (l : Launch) : ∀ q ∈ ([(0, iP 1 (fAld 0)), (1, iP 2 (fIld 1)), (2, iCK 5 11 15 2 2 3), (5, iP 7 (fAst 5)), (7, iP 9 (fAld 5)), (9, iB 12 37 bN), (12, iP 13 (fIld 2)), (13, iC 16 102 1 1 1), (16, iB 19 37 (b1 (fun x => decide (x = 0)))), (19, iP 20 (fIld 3)), (20, iC 23 102 1 1 1), (23, iB 26 37 (b1 (fun x => decide (x = 0)))), (26, iP 28 (fIld 4)), (28, iB 31 37 (b1 (fun x => decide (x < 0)))), (31, iP 33 (fIld 4)), (33, iP 34 (fK (.inl 4))), (34, iB 37 40 (b2 (fun x y => decide (x ≤ y)))), (37, iP 39 (fK (.inl (-1000001)))), (39, iRet rI), (40, iP 41 (fAld 0)), (41, iP 42 (fAld 0)), (42, iP 44 (fAld 5)), (44, iCK 47 11 68 4 2 1), (47, iCK 50 11 69 3 2 1), (50, iB 53 56 (b1 (fun x => decide (x ≠ 0)))), (53, iP 55 (fK (.inl (-1000002)))), (55, iRet rI), (56, iP 57 (fAld 0)), (57, iRR 60 (gtR 49)), (60, iP 62 (fAld 5)), (62, iP 63 (fIld 2)), (63, iP 64 (fIld 3)), (64, iP 66 (fIld 4)), (66, iCK 69 8 108 6 5 1), (69, iRet rI)] : List (Nat × AS)), SI X l 107 q.1 q.2 := List.forall_mem_cons.mpr ⟨
  s_aload_n (k := 0) (show decode (cod 107) 0 = .ok (.aload_n 0, 1) by decide +kernel), List.forall_mem_cons.mpr ⟨
  s_iload_n (k := 1) (show decode (cod 107) 1 = .ok (.iload_n 1, 1) by decide +kernel), List.forall_mem_cons.mpr ⟨
  s_invK rfl (rcv_virt (show decode (cod 107) 2 = .ok (.invokevirtual 56, 3) by decide +kernel) cld_107_15 ⟨10, _, _, rfl, by decide, rfl⟩ wd_102 wd_103 wd_104), List.forall_mem_cons.mpr ⟨
  s_astore (k := 5) (show decode (cod 107) 5 = .ok (.astore 5, 2) by decide +kernel), List.forall_mem_cons.mpr ⟨
  s_aload (k := 5) (show decode (cod 107) 7 = .ok (.aload 5, 2) by decide +kernel), List.forall_mem_cons.mpr ⟨
  s_ifnull (show decode (cod 107) 9 = .ok (.ifnull 28, 3) by decide +kernel) (by decide), List.forall_mem_cons.mpr ⟨
  s_iload_n (k := 2) (show decode (cod 107) 12 = .ok (.iload_n 2, 1) by decide +kernel), List.forall_mem_cons.mpr ⟨
  s_invS (show decode (cod 107) 13 = .ok (.invokestatic 180, 3) by decide +kernel) rfl cld_107_102 wd_497 wd_498, List.forall_mem_cons.mpr ⟨
  s_ifeq (show decode (cod 107) 16 = .ok (.ifCond .eq 21, 3) by decide +kernel) (by decide), List.forall_mem_cons.mpr ⟨
  s_iload_n (k := 3) (show decode (cod 107) 19 = .ok (.iload_n 3, 1) by decide +kernel), List.forall_mem_cons.mpr ⟨
  s_invS (show decode (cod 107) 20 = .ok (.invokestatic 180, 3) by decide +kernel) rfl cld_107_102 wd_497 wd_498, List.forall_mem_cons.mpr ⟨
  s_ifeq (show decode (cod 107) 23 = .ok (.ifCond .eq 14, 3) by decide +kernel) (by decide), List.forall_mem_cons.mpr ⟨
  s_iload (k := 4) (show decode (cod 107) 26 = .ok (.iload 4, 2) by decide +kernel), List.forall_mem_cons.mpr ⟨
  s_iflt (show decode (cod 107) 28 = .ok (.ifCond .lt 9, 3) by decide +kernel) (by decide), List.forall_mem_cons.mpr ⟨
  s_iload (k := 4) (show decode (cod 107) 31 = .ok (.iload 4, 2) by decide +kernel), List.forall_mem_cons.mpr ⟨
  s_iconst (show decode (cod 107) 33 = .ok (.iconst 4, 1) by decide +kernel) rfl, List.forall_mem_cons.mpr ⟨
  s_icmple (show decode (cod 107) 34 = .ok (.if_icmp .le 6, 3) by decide +kernel) (by decide), List.forall_mem_cons.mpr ⟨
  s_ldc (show decode (cod 107) 37 = .ok (.ldc 55, 2) by decide +kernel) wd_100, List.forall_mem_cons.mpr ⟨
  s_ret (show decode (cod 107) 39 = .ok (.ireturn, 1) by decide +kernel) rI_ok (fun h => by cases h), List.forall_mem_cons.mpr ⟨
  s_aload_n (k := 0) (show decode (cod 107) 40 = .ok (.aload_n 0, 1) by decide +kernel), List.forall_mem_cons.mpr ⟨
  s_aload_n (k := 0) (show decode (cod 107) 41 = .ok (.aload_n 0, 1) by decide +kernel), List.forall_mem_cons.mpr ⟨
  s_aload (k := 5) (show decode (cod 107) 42 = .ok (.aload 5, 2) by decide +kernel), List.forall_mem_cons.mpr ⟨
  s_invK rfl (rcv_virt (show decode (cod 107) 44 = .ok (.invokevirtual 195, 3) by decide +kernel) cld_107_68 ⟨10, _, _, rfl, by decide, rfl⟩ wd_349 wd_350 wd_351), List.forall_mem_cons.mpr ⟨
  s_invK rfl (rcv_virt (show decode (cod 107) 47 = .ok (.invokevirtual 199, 3) by decide +kernel) cld_107_69 ⟨10, _, _, rfl, by decide, rfl⟩ wd_353 wd_354 wd_355), List.forall_mem_cons.mpr ⟨
  s_ifne (show decode (cod 107) 50 = .ok (.ifCond .ne 6, 3) by decide +kernel) (by decide), List.forall_mem_cons.mpr ⟨
  s_ldc (show decode (cod 107) 53 = .ok (.ldc 80, 2) by decide +kernel) wd_185, List.forall_mem_cons.mpr ⟨
  s_ret (show decode (cod 107) 55 = .ok (.ireturn, 1) by decide +kernel) rI_ok (fun h => by cases h), List.forall_mem_cons.mpr ⟨
  s_aload_n (k := 0) (show decode (cod 107) 56 = .ok (.aload_n 0, 1) by decide +kernel), List.forall_mem_cons.mpr ⟨
  s_getR (show decode (cod 107) 57 = .ok (.getfield 43, 3) by decide +kernel) wd_26 (Or.inl rfl) rfl, List.forall_mem_cons.mpr ⟨
  s_aload (k := 5) (show decode (cod 107) 60 = .ok (.aload 5, 2) by decide +kernel), List.forall_mem_cons.mpr ⟨
  s_iload_n (k := 2) (show decode (cod 107) 62 = .ok (.iload_n 2, 1) by decide +kernel), List.forall_mem_cons.mpr ⟨
  s_iload_n (k := 3) (show decode (cod 107) 63 = .ok (.iload_n 3, 1) by decide +kernel), List.forall_mem_cons.mpr ⟨
  s_iload (k := 4) (show decode (cod 107) 64 = .ok (.iload 4, 2) by decide +kernel), List.forall_mem_cons.mpr ⟨
  s_invK rfl (rcv_virt (show decode (cod 107) 66 = .ok (.invokevirtual 202, 3) by decide +kernel) cld_107_108 ⟨7, _, _, rfl, by decide, rfl⟩ wd_513 wd_514 wd_515), List.forall_mem_cons.mpr ⟨
  s_ret (show decode (cod 107) 69 = .ok (.ireturn, 1) by decide +kernel) rI_ok (fun h => by cases h), fun _ h => by cases h⟩⟩⟩⟩⟩⟩⟩⟩⟩⟩⟩⟩⟩⟩⟩⟩⟩⟩⟩⟩⟩⟩⟩⟩⟩⟩⟩⟩⟩⟩⟩⟩⟩⟩⟩
set_option maxRecDepth 100000 in
theorem si107 (X : CX) (l : Launch) : ∀ q ∈ pt107, SI X l 107 q.1 q.2 :=  si107_0 X l
set_option maxRecDepth 100000 in
set_option maxHeartbeats 4000000 in
theorem si108_0 (X : CX) (l : Launch) : ∀ q ∈ ([(0, iP 1 (fAld 0)), (1, iP 3 (fIld 4)), (3, iW 6 (ptI 34)), (6, iP 7 (fAld 0)), (7, iP 8 (fK (.inl 0))), (8, iW 11 (ptI 35)), (11, iP 12 (fAld 0)), (12, iP 13 (fK (.inl 0))), (13, iW 16 (ptI 36)), (16, iP 17 (fAld 0)), (17, iP 18 (fK (.inl 0))), (18, iW 21 (ptZ 37)), (21, iP 22 (fAld 0)), (22, iP 23 (fAld 1)), (23, iW 26 (ptR 38)), (26, iP 27 (fAld 0)), (27, iP 28 (fK (.inl 0))), (28, iW 31 (ptI 39)), (31, iP 32 (fAld 1)), (32, iP 33 (fIld 2)), (33, iP 34 fI2l), (34, iP 35 (fIld 3)), (35, iP 36 fI2l), (36, iP 37 (fK (.inr (.inr 0)))), (37, iP 38 (fK (.inl 0))), (38, iCK 41 7 109 7 5 0), (41, iP 42 (fK (.inl 0))), (42, iP 44 (fIst 5)), (44, iP 46 (fIld 5)), (46, iP 48 (fK (.inl 10000000))), (48, iB 51 79 (b2 (fun x y => decide (y ≤ x)))), (51, iP 52 (fAld 0)), (52, iRR 55 (gtR 38)), (55, iB 58 79 bN), (58, iP 59 (fAld 0)), (59, iRI 62 (gtI 37)), (62, iB 65 79 (b1 (fun x => decide (x ≠ 0)))), (65, iP 66 (fAld 0)), (66, iP 67 (fAld 0)), (67, iRR 70 (gtR 38))] : List (Nat × AS)), SI X l 108 q.1 q.2 := List.forall_mem_cons.mpr ⟨
  s_aload_n (k := 0) (show decode (cod 108) 0 = .ok (.aload_n 0, 1) by decide +kernel), List.forall_mem_cons.mpr ⟨
  s_iload (k := 4) (show decode (cod 108) 1 = .ok (.iload 4, 2) by decide +kernel), List.forall_mem_cons.mpr ⟨
  s_putI (show decode (cod 108) 3 = .ok (.putfield 15, 3) by decide +kernel) wd_74 (Or.inl rfl) (Or.inl rfl) rfl, List.forall_mem_cons.mpr ⟨
  s_aload_n (k := 0) (show decode (cod 108) 6 = .ok (.aload_n 0, 1) by decide +kernel), List.forall_mem_cons.mpr ⟨
  s_iconst (show decode (cod 108) 7 = .ok (.iconst 0, 1) by decide +kernel) rfl, List.forall_mem_cons.mpr ⟨
  s_putI (show decode (cod 108) 8 = .ok (.putfield 18, 3) by decide +kernel) wd_75 (Or.inl rfl) (Or.inl rfl) rfl, List.forall_mem_cons.mpr ⟨
  s_aload_n (k := 0) (show decode (cod 108) 11 = .ok (.aload_n 0, 1) by decide +kernel), List.forall_mem_cons.mpr ⟨
  s_iconst (show decode (cod 108) 12 = .ok (.iconst 0, 1) by decide +kernel) rfl, List.forall_mem_cons.mpr ⟨
  s_putI (show decode (cod 108) 13 = .ok (.putfield 21, 3) by decide +kernel) wd_76 (Or.inl rfl) (Or.inl rfl) rfl, List.forall_mem_cons.mpr ⟨
  s_aload_n (k := 0) (show decode (cod 108) 16 = .ok (.aload_n 0, 1) by decide +kernel), List.forall_mem_cons.mpr ⟨
  s_iconst (show decode (cod 108) 17 = .ok (.iconst 0, 1) by decide +kernel) rfl, List.forall_mem_cons.mpr ⟨
  s_putZ (show decode (cod 108) 18 = .ok (.putfield 24, 3) by decide +kernel) wd_77 (Or.inl rfl) (Or.inl rfl) rfl, List.forall_mem_cons.mpr ⟨
  s_aload_n (k := 0) (show decode (cod 108) 21 = .ok (.aload_n 0, 1) by decide +kernel), List.forall_mem_cons.mpr ⟨
  s_aload_n (k := 1) (show decode (cod 108) 22 = .ok (.aload_n 1, 1) by decide +kernel), List.forall_mem_cons.mpr ⟨
  s_putR (show decode (cod 108) 23 = .ok (.putfield 28, 3) by decide +kernel) wd_78 (Or.inl rfl) (Or.inl rfl) rfl, List.forall_mem_cons.mpr ⟨
  s_aload_n (k := 0) (show decode (cod 108) 26 = .ok (.aload_n 0, 1) by decide +kernel), List.forall_mem_cons.mpr ⟨
  s_iconst (show decode (cod 108) 27 = .ok (.iconst 0, 1) by decide +kernel) rfl, List.forall_mem_cons.mpr ⟨
  s_putI (show decode (cod 108) 28 = .ok (.putfield 32, 3) by decide +kernel) wd_79 (Or.inl rfl) (Or.inl rfl) rfl, List.forall_mem_cons.mpr ⟨
  s_aload_n (k := 1) (show decode (cod 108) 31 = .ok (.aload_n 1, 1) by decide +kernel), List.forall_mem_cons.mpr ⟨
  s_iload_n (k := 2) (show decode (cod 108) 32 = .ok (.iload_n 2, 1) by decide +kernel), List.forall_mem_cons.mpr ⟨
  s_i2l (show decode (cod 108) 33 = .ok (.i2l, 1) by decide +kernel), List.forall_mem_cons.mpr ⟨
  s_iload_n (k := 3) (show decode (cod 108) 34 = .ok (.iload_n 3, 1) by decide +kernel), List.forall_mem_cons.mpr ⟨
  s_i2l (show decode (cod 108) 35 = .ok (.i2l, 1) by decide +kernel), List.forall_mem_cons.mpr ⟨
  s_null (show decode (cod 108) 36 = .ok (.aconst_null, 1) by decide +kernel), List.forall_mem_cons.mpr ⟨
  s_iconst (show decode (cod 108) 37 = .ok (.iconst 0, 1) by decide +kernel) rfl, List.forall_mem_cons.mpr ⟨
  s_invK rfl (rcv_virt (show decode (cod 108) 38 = .ok (.invokevirtual 35, 3) by decide +kernel) cld_108_109 ⟨6, _, _, rfl, by decide, rfl⟩ wd_517 wd_518 wd_519), List.forall_mem_cons.mpr ⟨
  s_iconst (show decode (cod 108) 41 = .ok (.iconst 0, 1) by decide +kernel) rfl, List.forall_mem_cons.mpr ⟨
  s_istore (k := 5) (show decode (cod 108) 42 = .ok (.istore 5, 2) by decide +kernel), List.forall_mem_cons.mpr ⟨
  s_iload (k := 5) (show decode (cod 108) 44 = .ok (.iload 5, 2) by decide +kernel), List.forall_mem_cons.mpr ⟨
  s_ldc (show decode (cod 108) 46 = .ok (.ldc 41, 2) by decide +kernel) wd_520, List.forall_mem_cons.mpr ⟨
  s_icmpge (show decode (cod 108) 48 = .ok (.if_icmp .ge 31, 3) by decide +kernel) (by decide), List.forall_mem_cons.mpr ⟨
  s_aload_n (k := 0) (show decode (cod 108) 51 = .ok (.aload_n 0, 1) by decide +kernel), List.forall_mem_cons.mpr ⟨
  s_getR (show decode (cod 108) 52 = .ok (.getfield 28, 3) by decide +kernel) wd_78 (Or.inl rfl) rfl, List.forall_mem_cons.mpr ⟨
  s_ifnull (show decode (cod 108) 55 = .ok (.ifnull 24, 3) by decide +kernel) (by decide), List.forall_mem_cons.mpr ⟨
  s_aload_n (k := 0) (show decode (cod 108) 58 = .ok (.aload_n 0, 1) by decide +kernel), List.forall_mem_cons.mpr ⟨
  s_getI (show decode (cod 108) 59 = .ok (.getfield 24, 3) by decide +kernel) wd_77 (Or.inl rfl) (Or.inr rfl), List.forall_mem_cons.mpr ⟨
  s_ifne (show decode (cod 108) 62 = .ok (.ifCond .ne 17, 3) by decide +kernel) (by decide), List.forall_mem_cons.mpr ⟨
  s_aload_n (k := 0) (show decode (cod 108) 65 = .ok (.aload_n 0, 1) by decide +kernel), List.forall_mem_cons.mpr ⟨
  s_aload_n (k := 0) (show decode (cod 108) 66 = .ok (.aload_n 0, 1) by decide +kernel), List.forall_mem_cons.mpr ⟨
  s_getR (show decode (cod 108) 67 = .ok (.getfield 28, 3) by decide +kernel) wd_78 (Or.inl rfl) rfl, fun _ h => by cases h⟩⟩⟩⟩⟩⟩⟩⟩⟩⟩⟩⟩⟩⟩⟩⟩⟩⟩⟩⟩⟩⟩⟩⟩⟩⟩⟩⟩⟩⟩⟩⟩⟩⟩⟩⟩⟩⟩⟩⟩
set_option maxRecDepth 100000 in
set_option maxHeartbeats 4000000 in
theorem si108_1 (X : CX) (l : Launch) : ∀ q ∈ ([(70, iCK 73 8 110 7 2 0), (73, iP 76 (fInc 5 1)), (76, iP 44 fGo), (79, iP 80 (fAld 0)), (80, iRR 83 (gtR 38)), (83, iB 86 93 bNN), (86, iP 87 (fAld 0)), (87, iRI 90 (gtI 35)), (90, iP 95 fGo), (93, iP 95 (fK (.inl (-1000004)))), (95, iRet rI)] : List (Nat × AS)), SI X l 108 q.1 q.2 := List.forall_mem_cons.mpr ⟨
  s_invK rfl (rcv_virt (show decode (cod 108) 70 = .ok (.invokevirtual 42, 3) by decide +kernel) cld_108_110 ⟨7, _, _, rfl, by decide, rfl⟩ wd_522 wd_523 wd_524), List.forall_mem_cons.mpr ⟨
  s_iinc (show decode (cod 108) 73 = .ok (.iinc 5 1, 3) by decide +kernel) rfl, List.forall_mem_cons.mpr ⟨
  s_goto (show decode (cod 108) 76 = .ok (.goto (-32), 3) by decide +kernel) (by decide), List.forall_mem_cons.mpr ⟨
  s_aload_n (k := 0) (show decode (cod 108) 79 = .ok (.aload_n 0, 1) by decide +kernel), List.forall_mem_cons.mpr ⟨
  s_getR (show decode (cod 108) 80 = .ok (.getfield 28, 3) by decide +kernel) wd_78 (Or.inl rfl) rfl, List.forall_mem_cons.mpr ⟨
  s_ifnonnull (show decode (cod 108) 83 = .ok (.ifnonnull 10, 3) by decide +kernel) (by decide), List.forall_mem_cons.mpr ⟨
  s_aload_n (k := 0) (show decode (cod 108) 86 = .ok (.aload_n 0, 1) by decide +kernel), List.forall_mem_cons.mpr ⟨
  s_getI (show decode (cod 108) 87 = .ok (.getfield 18, 3) by decide +kernel) wd_75 (Or.inl rfl) (Or.inl rfl), List.forall_mem_cons.mpr ⟨
  s_goto (show decode (cod 108) 90 = .ok (.goto 5, 3) by decide +kernel) (by decide), List.forall_mem_cons.mpr ⟨
  s_ldc (show decode (cod 108) 93 = .ok (.ldc 46, 2) by decide +kernel) wd_525, List.forall_mem_cons.mpr ⟨
  s_ret (show decode (cod 108) 95 = .ok (.ireturn, 1) by decide +kernel) rI_ok (fun h => by cases h), fun _ h => by cases h⟩⟩⟩⟩⟩⟩⟩⟩⟩⟩⟩
set_option maxRecDepth 100000 in
theorem si108 (X : CX) (l : Launch) : ∀ q ∈ pt108, SI X l 108 q.1 q.2 := (List.forall_mem_append (l₁ := _) (l₂ := _)).mpr ⟨si108_0 X l, si108_1 X l⟩
set_option maxRecDepth 100000 in
set_option maxHeartbeats 4000000 in
theorem si109_0 (X : CX) (l : Launch) : ∀ q ∈ ([(0, iP 1 (fAld 0)), (1, iRR 4 (gtR 29)), (4, iP 5 (fK (.inr (.inl 0)))), (5, iC 8 73 5 2 0), (8, iP 9 (fAld 0)), (9, iRR 12 (gtR 29)), (12, iP 13 (fK (.inl 0))), (13, iP 14 (fJld 1)), (14, iW 15 wAJ), (15, iP 16 (fAld 0)), (16, iRR 19 (gtR 29)), (19, iP 20 (fK (.inl 1))), (20, iP 21 (fJld 3)), (21, iW 22 wAJ), (22, iP 23 (fAld 0)), (23, iP 25 (fAld 5)), (25, iW 28 (ptR 31)), (28, iP 29 (fAld 0)), (29, iP 31 (fIld 6)), (31, iW 34 (ptI 32)), (34, iRet rV)] : List (Nat × AS)), SI X l 109 q.1 q.2 := List.forall_mem_cons.mpr ⟨
  s_aload_n (k := 0) (show decode (cod 109) 0 = .ok (.aload_n 0, 1) by decide +kernel), List.forall_mem_cons.mpr ⟨
  s_getR (show decode (cod 109) 1 = .ok (.getfield 39, 3) by decide +kernel) wd_90 (Or.inl rfl) rfl, List.forall_mem_cons.mpr ⟨
  s_lconst (show decode (cod 109) 4 = .ok (.lconst 0, 1) by decide +kernel) rfl, List.forall_mem_cons.mpr ⟨
  s_invS (show decode (cod 109) 5 = .ok (.invokestatic 99, 3) by decide +kernel) rfl cld_109_73 wd_526 wd_404, List.forall_mem_cons.mpr ⟨
  s_aload_n (k := 0) (show decode (cod 109) 8 = .ok (.aload_n 0, 1) by decide +kernel), List.forall_mem_cons.mpr ⟨
  s_getR (show decode (cod 109) 9 = .ok (.getfield 39, 3) by decide +kernel) wd_90 (Or.inl rfl) rfl, List.forall_mem_cons.mpr ⟨
  s_iconst (show decode (cod 109) 12 = .ok (.iconst 0, 1) by decide +kernel) rfl, List.forall_mem_cons.mpr ⟨
  s_lload_n (k := 1) (show decode (cod 109) 13 = .ok (.lload_n 1, 1) by decide +kernel), List.forall_mem_cons.mpr ⟨
  s_lastore (show decode (cod 109) 14 = .ok (.lastore, 1) by decide +kernel), List.forall_mem_cons.mpr ⟨
  s_aload_n (k := 0) (show decode (cod 109) 15 = .ok (.aload_n 0, 1) by decide +kernel), List.forall_mem_cons.mpr ⟨
  s_getR (show decode (cod 109) 16 = .ok (.getfield 39, 3) by decide +kernel) wd_90 (Or.inl rfl) rfl, List.forall_mem_cons.mpr ⟨
  s_iconst (show decode (cod 109) 19 = .ok (.iconst 1, 1) by decide +kernel) rfl, List.forall_mem_cons.mpr ⟨
  s_lload_n (k := 3) (show decode (cod 109) 20 = .ok (.lload_n 3, 1) by decide +kernel), List.forall_mem_cons.mpr ⟨
  s_lastore (show decode (cod 109) 21 = .ok (.lastore, 1) by decide +kernel), List.forall_mem_cons.mpr ⟨
  s_aload_n (k := 0) (show decode (cod 109) 22 = .ok (.aload_n 0, 1) by decide +kernel), List.forall_mem_cons.mpr ⟨
  s_aload (k := 5) (show decode (cod 109) 23 = .ok (.aload 5, 2) by decide +kernel), List.forall_mem_cons.mpr ⟨
  s_putR (show decode (cod 109) 25 = .ok (.putfield 46, 3) by decide +kernel) wd_92 (Or.inl rfl) (Or.inl rfl) rfl, List.forall_mem_cons.mpr ⟨
  s_aload_n (k := 0) (show decode (cod 109) 28 = .ok (.aload_n 0, 1) by decide +kernel), List.forall_mem_cons.mpr ⟨
  s_iload (k := 6) (show decode (cod 109) 29 = .ok (.iload 6, 2) by decide +kernel), List.forall_mem_cons.mpr ⟨
  s_putI (show decode (cod 109) 31 = .ok (.putfield 50, 3) by decide +kernel) wd_93 (Or.inl rfl) (Or.inl rfl) rfl, List.forall_mem_cons.mpr ⟨
  s_ret (show decode (cod 109) 34 = .ok (.return_, 1) by decide +kernel) rV_ok (fun h => by cases h), fun _ h => by cases h⟩⟩⟩⟩⟩⟩⟩⟩⟩⟩⟩⟩⟩⟩⟩⟩⟩⟩⟩⟩⟩
set_option maxRecDepth 100000 in
theorem si109 (X : CX) (l : Launch) : ∀ q ∈ pt109, SI X l 109 q.1 q.2 :=  si109_0 X l
