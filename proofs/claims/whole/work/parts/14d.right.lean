set_option maxRecDepth 100000 in
set_option maxHeartbeats 4000000 in
theorem si110_0 (X : CX) (l : Launch) : ∀ q ∈ ([(0, iP 1 (fAld 1)), (1, iP 2 (fAld 0)), (2, iRI 5 (gtI 39)), (5, iCK 8 7 18 2 2 3), (8, iP 9 (fAst 2)), (9, iP 10 (fAld 2)), (10, iB 13 32 bNN), (13, iP 14 (fAld 0)), (14, iP 15 (fAld 1)), (15, iRI 18 (gtI 32)), (18, iW 21 (ptI 39)), (21, iP 22 (fAld 0)), (22, iP 23 (fAld 1)), (23, iRR 26 (gtR 31)), (26, iW 29 (ptR 38)), (29, iP 167 fGo), (32, iP 33 (fAld 2)), (33, iRI 36 (qInst [10] [1, 2, 3, 4])), (36, iB 39 70 (b1 (fun x => decide (x = 0)))), (39, iP 40 (fAld 2)), (40, iRR 43 (qCast [10])), (43, iP 44 (fAst 3)), (44, iP 45 (fAld 0)), (45, iP 46 fDup), (46, iRI 49 (gtI 35)), (49, iP 50 (fAld 3)), (50, iRI 53 (gtI 42)), (53, iP 54 (f2I (fun x y => x + y))), (54, iW 57 (ptI 35)), (57, iP 58 (fAld 0)), (58, iP 59 fDup), (59, iRI 62 (gtI 39)), (62, iP 63 (fK (.inl 1))), (63, iP 64 (f2I (fun x y => x + y))), (64, iW 67 (ptI 39)), (67, iP 167 fGo), (70, iP 71 (fAld 2)), (71, iRI 74 (qInst [3] [1, 2, 4, 10])), (74, iB 77 108 (b1 (fun x => decide (x = 0)))), (77, iP 78 (fAld 2))] : List (Nat × AS)), SI X l 110 q.1 q.2 := List.forall_mem_cons.mpr ⟨
  s_aload_n (k := 1) (show decode (cod 110) 0 = .ok (.aload_n 1, 1) by decide +kernel), List.forall_mem_cons.mpr ⟨
  s_aload_n (k := 0) (show decode (cod 110) 1 = .ok (.aload_n 0, 1) by decide +kernel), List.forall_mem_cons.mpr ⟨
  s_getI (show decode (cod 110) 2 = .ok (.getfield 32, 3) by decide +kernel) wd_79 (Or.inl rfl) (Or.inl rfl), List.forall_mem_cons.mpr ⟨
  s_invK rfl (rcv_virt (show decode (cod 110) 5 = .ok (.invokevirtual 47, 3) by decide +kernel) cld_110_18 ⟨6, _, _, rfl, by decide, rfl⟩ wd_527 wd_126 wd_127), List.forall_mem_cons.mpr ⟨
  s_astore_n (k := 2) (show decode (cod 110) 8 = .ok (.astore_n 2, 1) by decide +kernel), List.forall_mem_cons.mpr ⟨
  s_aload_n (k := 2) (show decode (cod 110) 9 = .ok (.aload_n 2, 1) by decide +kernel), List.forall_mem_cons.mpr ⟨
  s_ifnonnull (show decode (cod 110) 10 = .ok (.ifnonnull 22, 3) by decide +kernel) (by decide), List.forall_mem_cons.mpr ⟨
  s_aload_n (k := 0) (show decode (cod 110) 13 = .ok (.aload_n 0, 1) by decide +kernel), List.forall_mem_cons.mpr ⟨
  s_aload_n (k := 1) (show decode (cod 110) 14 = .ok (.aload_n 1, 1) by decide +kernel), List.forall_mem_cons.mpr ⟨
  s_getI (show decode (cod 110) 15 = .ok (.getfield 51, 3) by decide +kernel) wd_528 (Or.inl rfl) (Or.inl rfl), List.forall_mem_cons.mpr ⟨
  s_putI (show decode (cod 110) 18 = .ok (.putfield 32, 3) by decide +kernel) wd_79 (Or.inl rfl) (Or.inl rfl) rfl, List.forall_mem_cons.mpr ⟨
  s_aload_n (k := 0) (show decode (cod 110) 21 = .ok (.aload_n 0, 1) by decide +kernel), List.forall_mem_cons.mpr ⟨
  s_aload_n (k := 1) (show decode (cod 110) 22 = .ok (.aload_n 1, 1) by decide +kernel), List.forall_mem_cons.mpr ⟨
  s_getR (show decode (cod 110) 23 = .ok (.getfield 54, 3) by decide +kernel) wd_529 (Or.inl rfl) rfl, List.forall_mem_cons.mpr ⟨
  s_putR (show decode (cod 110) 26 = .ok (.putfield 28, 3) by decide +kernel) wd_78 (Or.inl rfl) (Or.inl rfl) rfl, List.forall_mem_cons.mpr ⟨
  s_goto (show decode (cod 110) 29 = .ok (.goto 138, 3) by decide +kernel) (by decide), List.forall_mem_cons.mpr ⟨
  s_aload_n (k := 2) (show decode (cod 110) 32 = .ok (.aload_n 2, 1) by decide +kernel), List.forall_mem_cons.mpr ⟨
  s_inst (show decode (cod 110) 33 = .ok (.instanceof 57, 3) by decide +kernel) wd_530 (List.forall_mem_cons.mpr ⟨⟨"StepsAhead$Work", ⟨9, _, _, rfl, by decide, rfl⟩, Or.inl rfl⟩, fun _ h => by cases h⟩) (List.forall_mem_cons.mpr ⟨⟨"StepsAhead$Call", ⟨0, _, _, rfl, by decide, rfl⟩, Or.inl (by decide)⟩, List.forall_mem_cons.mpr ⟨⟨"StepsAhead$Either", ⟨1, _, _, rfl, by decide, rfl⟩, Or.inl (by decide)⟩, List.forall_mem_cons.mpr ⟨⟨"StepsAhead$Loop", ⟨2, _, _, rfl, by decide, rfl⟩, Or.inl (by decide)⟩, List.forall_mem_cons.mpr ⟨⟨"StepsAhead$Op", ⟨3, _, _, rfl, by decide, rfl⟩, Or.inl (by decide)⟩, fun _ h => by cases h⟩⟩⟩⟩), List.forall_mem_cons.mpr ⟨
  s_ifeq (show decode (cod 110) 36 = .ok (.ifCond .eq 34, 3) by decide +kernel) (by decide), List.forall_mem_cons.mpr ⟨
  s_aload_n (k := 2) (show decode (cod 110) 39 = .ok (.aload_n 2, 1) by decide +kernel), List.forall_mem_cons.mpr ⟨
  s_cast (show decode (cod 110) 40 = .ok (.checkcast 57, 3) by decide +kernel) wd_530 (List.forall_mem_cons.mpr ⟨⟨"StepsAhead$Work", ⟨9, _, _, rfl, by decide, rfl⟩, Or.inl rfl⟩, fun _ h => by cases h⟩), List.forall_mem_cons.mpr ⟨
  s_astore_n (k := 3) (show decode (cod 110) 43 = .ok (.astore_n 3, 1) by decide +kernel), List.forall_mem_cons.mpr ⟨
  s_aload_n (k := 0) (show decode (cod 110) 44 = .ok (.aload_n 0, 1) by decide +kernel), List.forall_mem_cons.mpr ⟨
  s_dup (show decode (cod 110) 45 = .ok (.dup, 1) by decide +kernel), List.forall_mem_cons.mpr ⟨
  s_getI (show decode (cod 110) 46 = .ok (.getfield 18, 3) by decide +kernel) wd_75 (Or.inl rfl) (Or.inl rfl), List.forall_mem_cons.mpr ⟨
  s_aload_n (k := 3) (show decode (cod 110) 49 = .ok (.aload_n 3, 1) by decide +kernel), List.forall_mem_cons.mpr ⟨
  s_getI (show decode (cod 110) 50 = .ok (.getfield 59, 3) by decide +kernel) wd_531 (Or.inl rfl) (Or.inl rfl), List.forall_mem_cons.mpr ⟨
  s_iadd (show decode (cod 110) 53 = .ok (.iadd, 1) by decide +kernel), List.forall_mem_cons.mpr ⟨
  s_putI (show decode (cod 110) 54 = .ok (.putfield 18, 3) by decide +kernel) wd_75 (Or.inl rfl) (Or.inl rfl) rfl, List.forall_mem_cons.mpr ⟨
  s_aload_n (k := 0) (show decode (cod 110) 57 = .ok (.aload_n 0, 1) by decide +kernel), List.forall_mem_cons.mpr ⟨
  s_dup (show decode (cod 110) 58 = .ok (.dup, 1) by decide +kernel), List.forall_mem_cons.mpr ⟨
  s_getI (show decode (cod 110) 59 = .ok (.getfield 32, 3) by decide +kernel) wd_79 (Or.inl rfl) (Or.inl rfl), List.forall_mem_cons.mpr ⟨
  s_iconst (show decode (cod 110) 62 = .ok (.iconst 1, 1) by decide +kernel) rfl, List.forall_mem_cons.mpr ⟨
  s_iadd (show decode (cod 110) 63 = .ok (.iadd, 1) by decide +kernel), List.forall_mem_cons.mpr ⟨
  s_putI (show decode (cod 110) 64 = .ok (.putfield 32, 3) by decide +kernel) wd_79 (Or.inl rfl) (Or.inl rfl) rfl, List.forall_mem_cons.mpr ⟨
  s_goto (show decode (cod 110) 67 = .ok (.goto 100, 3) by decide +kernel) (by decide), List.forall_mem_cons.mpr ⟨
  s_aload_n (k := 2) (show decode (cod 110) 70 = .ok (.aload_n 2, 1) by decide +kernel), List.forall_mem_cons.mpr ⟨
  s_inst (show decode (cod 110) 71 = .ok (.instanceof 62, 3) by decide +kernel) wd_532 (List.forall_mem_cons.mpr ⟨⟨"StepsAhead$Loop", ⟨2, _, _, rfl, by decide, rfl⟩, Or.inl rfl⟩, fun _ h => by cases h⟩) (List.forall_mem_cons.mpr ⟨⟨"StepsAhead$Call", ⟨0, _, _, rfl, by decide, rfl⟩, Or.inl (by decide)⟩, List.forall_mem_cons.mpr ⟨⟨"StepsAhead$Either", ⟨1, _, _, rfl, by decide, rfl⟩, Or.inl (by decide)⟩, List.forall_mem_cons.mpr ⟨⟨"StepsAhead$Op", ⟨3, _, _, rfl, by decide, rfl⟩, Or.inl (by decide)⟩, List.forall_mem_cons.mpr ⟨⟨"StepsAhead$Work", ⟨9, _, _, rfl, by decide, rfl⟩, Or.inl (by decide)⟩, fun _ h => by cases h⟩⟩⟩⟩), List.forall_mem_cons.mpr ⟨
  s_ifeq (show decode (cod 110) 74 = .ok (.ifCond .eq 34, 3) by decide +kernel) (by decide), List.forall_mem_cons.mpr ⟨
  s_aload_n (k := 2) (show decode (cod 110) 77 = .ok (.aload_n 2, 1) by decide +kernel), fun _ h => by cases h⟩⟩⟩⟩⟩⟩⟩⟩⟩⟩⟩⟩⟩⟩⟩⟩⟩⟩⟩⟩⟩⟩⟩⟩⟩⟩⟩⟩⟩⟩⟩⟩⟩⟩⟩⟩⟩⟩⟩⟩
set_option maxRecDepth 100000 in
set_option maxHeartbeats 4000000 in
theorem si110_1 (X : CX) (l : Launch) : ∀ q ∈ ([(78, iRR 81 (qCast [3])), (81, iP 83 (fAst 4)), (83, iP 84 (fAld 1)), (84, iP 86 (fAld 4)), (86, iP 87 (fAld 1)), (87, iP 89 (fAld 4)), (89, iRR 92 (gtR 0)), (92, iCK 95 7 111 5 2 2), (95, iCK 98 7 112 5 3 0), (98, iP 99 (fAld 0)), (99, iP 100 (fAld 1)), (100, iP 102 (fAld 4)), (102, iCK 105 8 113 5 3 0), (105, iP 167 fGo), (108, iP 109 (fAld 2)), (109, iRI 112 (qInst [1] [2, 3, 4, 10])), (112, iB 115 131 (b1 (fun x => decide (x = 0)))), (115, iP 116 (fAld 2)), (116, iRR 119 (qCast [1])), (119, iP 121 (fAst 5)), (121, iP 122 (fAld 0)), (122, iP 123 (fAld 1)), (123, iP 125 (fAld 5)), (125, iCK 128 8 117 3 3 0), (128, iP 167 fGo), (131, iP 132 (fAld 2)), (132, iRI 135 (qInst [2] [1, 3, 4, 10])), (135, iB 138 153 (b1 (fun x => decide (x = 0)))), (138, iP 139 (fAld 2)), (139, iRR 142 (qCast [2])), (142, iP 144 (fAst 6)), (144, iP 145 (fAld 0)), (145, iP 147 (fAld 6)), (147, iCK 150 8 118 2 2 0), (150, iP 167 fGo), (153, iP 154 (fAld 0)), (154, iP 155 (fAld 1)), (155, iP 156 (fAld 2)), (156, iP 157 (fAld 1)), (157, iP 158 (fAld 2))] : List (Nat × AS)), SI X l 110 q.1 q.2 := List.forall_mem_cons.mpr ⟨
  s_cast (show decode (cod 110) 78 = .ok (.checkcast 62, 3) by decide +kernel) wd_532 (List.forall_mem_cons.mpr ⟨⟨"StepsAhead$Loop", ⟨2, _, _, rfl, by decide, rfl⟩, Or.inl rfl⟩, fun _ h => by cases h⟩), List.forall_mem_cons.mpr ⟨
  s_astore (k := 4) (show decode (cod 110) 81 = .ok (.astore 4, 2) by decide +kernel), List.forall_mem_cons.mpr ⟨
  s_aload_n (k := 1) (show decode (cod 110) 83 = .ok (.aload_n 1, 1) by decide +kernel), List.forall_mem_cons.mpr ⟨
  s_aload (k := 4) (show decode (cod 110) 84 = .ok (.aload 4, 2) by decide +kernel), List.forall_mem_cons.mpr ⟨
  s_aload_n (k := 1) (show decode (cod 110) 86 = .ok (.aload_n 1, 1) by decide +kernel), List.forall_mem_cons.mpr ⟨
  s_aload (k := 4) (show decode (cod 110) 87 = .ok (.aload 4, 2) by decide +kernel), List.forall_mem_cons.mpr ⟨
  s_getR (show decode (cod 110) 89 = .ok (.getfield 64, 3) by decide +kernel) wd_533 (Or.inr wd_461) rfl, List.forall_mem_cons.mpr ⟨
  s_invK rfl (rcv_virt (show decode (cod 110) 92 = .ok (.invokevirtual 68, 3) by decide +kernel) cld_110_111 ⟨6, _, _, rfl, by decide, rfl⟩ wd_535 wd_536 wd_537), List.forall_mem_cons.mpr ⟨
  s_invK rfl (rcv_virt (show decode (cod 110) 95 = .ok (.invokevirtual 72, 3) by decide +kernel) cld_110_112 ⟨6, _, _, rfl, by decide, rfl⟩ wd_539 wd_540 wd_541), List.forall_mem_cons.mpr ⟨
  s_aload_n (k := 0) (show decode (cod 110) 98 = .ok (.aload_n 0, 1) by decide +kernel), List.forall_mem_cons.mpr ⟨
  s_aload_n (k := 1) (show decode (cod 110) 99 = .ok (.aload_n 1, 1) by decide +kernel), List.forall_mem_cons.mpr ⟨
  s_aload (k := 4) (show decode (cod 110) 100 = .ok (.aload 4, 2) by decide +kernel), List.forall_mem_cons.mpr ⟨
  s_invK rfl (rcv_virt (show decode (cod 110) 102 = .ok (.invokevirtual 76, 3) by decide +kernel) cld_110_113 ⟨7, _, _, rfl, by decide, rfl⟩ wd_543 wd_544 wd_545), List.forall_mem_cons.mpr ⟨
  s_goto (show decode (cod 110) 105 = .ok (.goto 62, 3) by decide +kernel) (by decide), List.forall_mem_cons.mpr ⟨
  s_aload_n (k := 2) (show decode (cod 110) 108 = .ok (.aload_n 2, 1) by decide +kernel), List.forall_mem_cons.mpr ⟨
  s_inst (show decode (cod 110) 109 = .ok (.instanceof 80, 3) by decide +kernel) wd_546 (List.forall_mem_cons.mpr ⟨⟨"StepsAhead$Call", ⟨0, _, _, rfl, by decide, rfl⟩, Or.inl rfl⟩, fun _ h => by cases h⟩) (List.forall_mem_cons.mpr ⟨⟨"StepsAhead$Either", ⟨1, _, _, rfl, by decide, rfl⟩, Or.inl (by decide)⟩, List.forall_mem_cons.mpr ⟨⟨"StepsAhead$Loop", ⟨2, _, _, rfl, by decide, rfl⟩, Or.inl (by decide)⟩, List.forall_mem_cons.mpr ⟨⟨"StepsAhead$Op", ⟨3, _, _, rfl, by decide, rfl⟩, Or.inl (by decide)⟩, List.forall_mem_cons.mpr ⟨⟨"StepsAhead$Work", ⟨9, _, _, rfl, by decide, rfl⟩, Or.inl (by decide)⟩, fun _ h => by cases h⟩⟩⟩⟩), List.forall_mem_cons.mpr ⟨
  s_ifeq (show decode (cod 110) 112 = .ok (.ifCond .eq 19, 3) by decide +kernel) (by decide), List.forall_mem_cons.mpr ⟨
  s_aload_n (k := 2) (show decode (cod 110) 115 = .ok (.aload_n 2, 1) by decide +kernel), List.forall_mem_cons.mpr ⟨
  s_cast (show decode (cod 110) 116 = .ok (.checkcast 80, 3) by decide +kernel) wd_546 (List.forall_mem_cons.mpr ⟨⟨"StepsAhead$Call", ⟨0, _, _, rfl, by decide, rfl⟩, Or.inl rfl⟩, fun _ h => by cases h⟩), List.forall_mem_cons.mpr ⟨
  s_astore (k := 5) (show decode (cod 110) 119 = .ok (.astore 5, 2) by decide +kernel), List.forall_mem_cons.mpr ⟨
  s_aload_n (k := 0) (show decode (cod 110) 121 = .ok (.aload_n 0, 1) by decide +kernel), List.forall_mem_cons.mpr ⟨
  s_aload_n (k := 1) (show decode (cod 110) 122 = .ok (.aload_n 1, 1) by decide +kernel), List.forall_mem_cons.mpr ⟨
  s_aload (k := 5) (show decode (cod 110) 123 = .ok (.aload 5, 2) by decide +kernel), List.forall_mem_cons.mpr ⟨
  s_invK rfl (rcv_virt (show decode (cod 110) 125 = .ok (.invokevirtual 82, 3) by decide +kernel) cld_110_117 ⟨7, _, _, rfl, by decide, rfl⟩ wd_548 wd_549 wd_550), List.forall_mem_cons.mpr ⟨
  s_goto (show decode (cod 110) 128 = .ok (.goto 39, 3) by decide +kernel) (by decide), List.forall_mem_cons.mpr ⟨
  s_aload_n (k := 2) (show decode (cod 110) 131 = .ok (.aload_n 2, 1) by decide +kernel), List.forall_mem_cons.mpr ⟨
  s_inst (show decode (cod 110) 132 = .ok (.instanceof 86, 3) by decide +kernel) wd_551 (List.forall_mem_cons.mpr ⟨⟨"StepsAhead$Either", ⟨1, _, _, rfl, by decide, rfl⟩, Or.inl rfl⟩, fun _ h => by cases h⟩) (List.forall_mem_cons.mpr ⟨⟨"StepsAhead$Call", ⟨0, _, _, rfl, by decide, rfl⟩, Or.inl (by decide)⟩, List.forall_mem_cons.mpr ⟨⟨"StepsAhead$Loop", ⟨2, _, _, rfl, by decide, rfl⟩, Or.inl (by decide)⟩, List.forall_mem_cons.mpr ⟨⟨"StepsAhead$Op", ⟨3, _, _, rfl, by decide, rfl⟩, Or.inl (by decide)⟩, List.forall_mem_cons.mpr ⟨⟨"StepsAhead$Work", ⟨9, _, _, rfl, by decide, rfl⟩, Or.inl (by decide)⟩, fun _ h => by cases h⟩⟩⟩⟩), List.forall_mem_cons.mpr ⟨
  s_ifeq (show decode (cod 110) 135 = .ok (.ifCond .eq 18, 3) by decide +kernel) (by decide), List.forall_mem_cons.mpr ⟨
  s_aload_n (k := 2) (show decode (cod 110) 138 = .ok (.aload_n 2, 1) by decide +kernel), List.forall_mem_cons.mpr ⟨
  s_cast (show decode (cod 110) 139 = .ok (.checkcast 86, 3) by decide +kernel) wd_551 (List.forall_mem_cons.mpr ⟨⟨"StepsAhead$Either", ⟨1, _, _, rfl, by decide, rfl⟩, Or.inl rfl⟩, fun _ h => by cases h⟩), List.forall_mem_cons.mpr ⟨
  s_astore (k := 6) (show decode (cod 110) 142 = .ok (.astore 6, 2) by decide +kernel), List.forall_mem_cons.mpr ⟨
  s_aload_n (k := 0) (show decode (cod 110) 144 = .ok (.aload_n 0, 1) by decide +kernel), List.forall_mem_cons.mpr ⟨
  s_aload (k := 6) (show decode (cod 110) 145 = .ok (.aload 6, 2) by decide +kernel), List.forall_mem_cons.mpr ⟨
  s_invK rfl (rcv_virt (show decode (cod 110) 147 = .ok (.invokevirtual 88, 3) by decide +kernel) cld_110_118 ⟨7, _, _, rfl, by decide, rfl⟩ wd_553 wd_554 wd_555), List.forall_mem_cons.mpr ⟨
  s_goto (show decode (cod 110) 150 = .ok (.goto 17, 3) by decide +kernel) (by decide), List.forall_mem_cons.mpr ⟨
  s_aload_n (k := 0) (show decode (cod 110) 153 = .ok (.aload_n 0, 1) by decide +kernel), List.forall_mem_cons.mpr ⟨
  s_aload_n (k := 1) (show decode (cod 110) 154 = .ok (.aload_n 1, 1) by decide +kernel), List.forall_mem_cons.mpr ⟨
  s_aload_n (k := 2) (show decode (cod 110) 155 = .ok (.aload_n 2, 1) by decide +kernel), List.forall_mem_cons.mpr ⟨
  s_aload_n (k := 1) (show decode (cod 110) 156 = .ok (.aload_n 1, 1) by decide +kernel), List.forall_mem_cons.mpr ⟨
  s_aload_n (k := 2) (show decode (cod 110) 157 = .ok (.aload_n 2, 1) by decide +kernel), fun _ h => by cases h⟩⟩⟩⟩⟩⟩⟩⟩⟩⟩⟩⟩⟩⟩⟩⟩⟩⟩⟩⟩⟩⟩⟩⟩⟩⟩⟩⟩⟩⟩⟩⟩⟩⟩⟩⟩⟩⟩⟩⟩
set_option maxRecDepth 100000 in
set_option maxHeartbeats 4000000 in
theorem si110_2 (X : CX) (l : Launch) : ∀ q ∈ ([(158, iRI 161 (gtI 4)), (161, iCK 164 7 18 2 2 3), (164, iCK 167 8 121 7 4 0), (167, iRet rV)] : List (Nat × AS)), SI X l 110 q.1 q.2 := List.forall_mem_cons.mpr ⟨
  s_getI (show decode (cod 110) 158 = .ok (.getfield 92, 3) by decide +kernel) wd_556 (Or.inl rfl) (Or.inl rfl), List.forall_mem_cons.mpr ⟨
  s_invK rfl (rcv_virt (show decode (cod 110) 161 = .ok (.invokevirtual 47, 3) by decide +kernel) cld_110_18 ⟨6, _, _, rfl, by decide, rfl⟩ wd_527 wd_126 wd_127), List.forall_mem_cons.mpr ⟨
  s_invK rfl (rcv_virt (show decode (cod 110) 164 = .ok (.invokevirtual 97, 3) by decide +kernel) cld_110_121 ⟨7, _, _, rfl, by decide, rfl⟩ wd_558 wd_559 wd_560), List.forall_mem_cons.mpr ⟨
  s_ret (show decode (cod 110) 167 = .ok (.return_, 1) by decide +kernel) rV_ok (fun h => by cases h), fun _ h => by cases h⟩⟩⟩⟩
set_option maxRecDepth 100000 in
theorem si110 (X : CX) (l : Launch) : ∀ q ∈ pt110, SI X l 110 q.1 q.2 := (List.forall_mem_append (l₁ := _) (l₂ := _)).mpr ⟨si110_0 X l, (List.forall_mem_append (l₁ := _) (l₂ := _)).mpr ⟨si110_1 X l, si110_2 X l⟩⟩
set_option maxRecDepth 100000 in
set_option maxHeartbeats 4000000 in
theorem si111_0 (X : CX) (l : Launch) : ∀ q ∈ ([(0, iP 1 (fAld 1)), (1, iP 2 (fK (.inl 0))), (2, iRI 3 qAI), (3, iP 4 fI2l), (4, iP 5 (fLst 2)), (5, iP 6 (fK (.inl 0))), (6, iP 8 (fIst 4)), (8, iP 10 (fIld 4)), (10, iP 11 (fK (.inl 5))), (11, iB 14 38 (b2 (fun x y => decide (y ≤ x)))), (14, iP 15 (fJld 2)), (15, iP 16 (fAld 1)), (16, iP 17 (fK (.inl 1))), (17, iP 19 (fIld 4)), (19, iP 20 (f2I (fun x y => x + y))), (20, iRI 21 qAI), (21, iP 22 fI2l), (22, iP 23 (fAld 0)), (23, iRR 26 (gtR 29)), (26, iP 28 (fIld 4)), (28, iRJ 29 qAJ), (29, iP 30 (f2J (fun x y => x * y))), (30, iP 31 (f2J (fun x y => x + y))), (31, iP 32 (fLst 2)), (32, iP 35 (fInc 4 1)), (35, iP 8 fGo), (38, iP 39 (fJld 2)), (39, iRet rJ)] : List (Nat × AS)), SI X l 111 q.1 q.2 := List.forall_mem_cons.mpr ⟨
  s_aload_n (k := 1) (show decode (cod 111) 0 = .ok (.aload_n 1, 1) by decide +kernel), List.forall_mem_cons.mpr ⟨
  s_iconst (show decode (cod 111) 1 = .ok (.iconst 0, 1) by decide +kernel) rfl, List.forall_mem_cons.mpr ⟨
  s_iaload (show decode (cod 111) 2 = .ok (.iaload, 1) by decide +kernel), List.forall_mem_cons.mpr ⟨
  s_i2l (show decode (cod 111) 3 = .ok (.i2l, 1) by decide +kernel), List.forall_mem_cons.mpr ⟨
  s_lstore_n (k := 2) (show decode (cod 111) 4 = .ok (.lstore_n 2, 1) by decide +kernel), List.forall_mem_cons.mpr ⟨
  s_iconst (show decode (cod 111) 5 = .ok (.iconst 0, 1) by decide +kernel) rfl, List.forall_mem_cons.mpr ⟨
  s_istore (k := 4) (show decode (cod 111) 6 = .ok (.istore 4, 2) by decide +kernel), List.forall_mem_cons.mpr ⟨
  s_iload (k := 4) (show decode (cod 111) 8 = .ok (.iload 4, 2) by decide +kernel), List.forall_mem_cons.mpr ⟨
  s_iconst (show decode (cod 111) 10 = .ok (.iconst 5, 1) by decide +kernel) rfl, List.forall_mem_cons.mpr ⟨
  s_icmpge (show decode (cod 111) 11 = .ok (.if_icmp .ge 27, 3) by decide +kernel) (by decide), List.forall_mem_cons.mpr ⟨
  s_lload_n (k := 2) (show decode (cod 111) 14 = .ok (.lload_n 2, 1) by decide +kernel), List.forall_mem_cons.mpr ⟨
  s_aload_n (k := 1) (show decode (cod 111) 15 = .ok (.aload_n 1, 1) by decide +kernel), List.forall_mem_cons.mpr ⟨
  s_iconst (show decode (cod 111) 16 = .ok (.iconst 1, 1) by decide +kernel) rfl, List.forall_mem_cons.mpr ⟨
  s_iload (k := 4) (show decode (cod 111) 17 = .ok (.iload 4, 2) by decide +kernel), List.forall_mem_cons.mpr ⟨
  s_iadd (show decode (cod 111) 19 = .ok (.iadd, 1) by decide +kernel), List.forall_mem_cons.mpr ⟨
  s_iaload (show decode (cod 111) 20 = .ok (.iaload, 1) by decide +kernel), List.forall_mem_cons.mpr ⟨
  s_i2l (show decode (cod 111) 21 = .ok (.i2l, 1) by decide +kernel), List.forall_mem_cons.mpr ⟨
  s_aload_n (k := 0) (show decode (cod 111) 22 = .ok (.aload_n 0, 1) by decide +kernel), List.forall_mem_cons.mpr ⟨
  s_getR (show decode (cod 111) 23 = .ok (.getfield 39, 3) by decide +kernel) wd_90 (Or.inl rfl) rfl, List.forall_mem_cons.mpr ⟨
  s_iload (k := 4) (show decode (cod 111) 26 = .ok (.iload 4, 2) by decide +kernel), List.forall_mem_cons.mpr ⟨
  s_laload (show decode (cod 111) 28 = .ok (.laload, 1) by decide +kernel), List.forall_mem_cons.mpr ⟨
  s_lmul (show decode (cod 111) 29 = .ok (.lmul, 1) by decide +kernel), List.forall_mem_cons.mpr ⟨
  s_ladd (show decode (cod 111) 30 = .ok (.ladd, 1) by decide +kernel), List.forall_mem_cons.mpr ⟨
  s_lstore_n (k := 2) (show decode (cod 111) 31 = .ok (.lstore_n 2, 1) by decide +kernel), List.forall_mem_cons.mpr ⟨
  s_iinc (show decode (cod 111) 32 = .ok (.iinc 4 1, 3) by decide +kernel) rfl, List.forall_mem_cons.mpr ⟨
  s_goto (show decode (cod 111) 35 = .ok (.goto (-27), 3) by decide +kernel) (by decide), List.forall_mem_cons.mpr ⟨
  s_lload_n (k := 2) (show decode (cod 111) 38 = .ok (.lload_n 2, 1) by decide +kernel), List.forall_mem_cons.mpr ⟨
  s_ret (show decode (cod 111) 39 = .ok (.lreturn, 1) by decide +kernel) rJ_ok (fun h => by cases h), fun _ h => by cases h⟩⟩⟩⟩⟩⟩⟩⟩⟩⟩⟩⟩⟩⟩⟩⟩⟩⟩⟩⟩⟩⟩⟩⟩⟩⟩⟩⟩
set_option maxRecDepth 100000 in
theorem si111 (X : CX) (l : Launch) : ∀ q ∈ pt111, SI X l 111 q.1 q.2 :=  si111_0 X l
set_option maxRecDepth 100000 in
set_option maxHeartbeats 4000000 in
theorem si112_0 (X : CX) (l : Launch) : ∀ q ∈ ([(0, iP 1 (fAld 1)), (1, iCK 4 3 90 1 1 1), (4, iP 6 (fIst 4)), (6, iP 8 (fIld 4)), (8, iP 9 (fK (.inl 5))), (9, iB 12 20 (b2 (fun x y => decide (y ≤ x)))), (12, iP 13 (fAld 0)), (13, iRR 16 (gtR 30)), (16, iP 18 (fIld 4)), (18, iP 19 (fJld 2)), (19, iW 20 wAJ), (20, iRet rV)] : List (Nat × AS)), SI X l 112 q.1 q.2 := List.forall_mem_cons.mpr ⟨
  s_aload_n (k := 1) (show decode (cod 112) 0 = .ok (.aload_n 1, 1) by decide +kernel), List.forall_mem_cons.mpr ⟨
  s_invK rfl (rcv_virt (show decode (cod 112) 1 = .ok (.invokevirtual 105, 3) by decide +kernel) cld_112_90 ⟨2, _, _, rfl, by decide, rfl⟩ wd_561 wd_464 wd_465), List.forall_mem_cons.mpr ⟨
  s_istore (k := 4) (show decode (cod 112) 4 = .ok (.istore 4, 2) by decide +kernel), List.forall_mem_cons.mpr ⟨
  s_iload (k := 4) (show decode (cod 112) 6 = .ok (.iload 4, 2) by decide +kernel), List.forall_mem_cons.mpr ⟨
  s_iconst (show decode (cod 112) 8 = .ok (.iconst 5, 1) by decide +kernel) rfl, List.forall_mem_cons.mpr ⟨
  s_icmpge (show decode (cod 112) 9 = .ok (.if_icmp .ge 11, 3) by decide +kernel) (by decide), List.forall_mem_cons.mpr ⟨
  s_aload_n (k := 0) (show decode (cod 112) 12 = .ok (.aload_n 0, 1) by decide +kernel), List.forall_mem_cons.mpr ⟨
  s_getR (show decode (cod 112) 13 = .ok (.getfield 43, 3) by decide +kernel) wd_91 (Or.inl rfl) rfl, List.forall_mem_cons.mpr ⟨
  s_iload (k := 4) (show decode (cod 112) 16 = .ok (.iload 4, 2) by decide +kernel), List.forall_mem_cons.mpr ⟨
  s_lload_n (k := 2) (show decode (cod 112) 18 = .ok (.lload_n 2, 1) by decide +kernel), List.forall_mem_cons.mpr ⟨
  s_lastore (show decode (cod 112) 19 = .ok (.lastore, 1) by decide +kernel), List.forall_mem_cons.mpr ⟨
  s_ret (show decode (cod 112) 20 = .ok (.return_, 1) by decide +kernel) rV_ok (fun h => by cases h), fun _ h => by cases h⟩⟩⟩⟩⟩⟩⟩⟩⟩⟩⟩⟩
set_option maxRecDepth 100000 in
theorem si112 (X : CX) (l : Launch) : ∀ q ∈ pt112, SI X l 112 q.1 q.2 :=  si112_0 X l
set_option maxRecDepth 100000 in
set_option maxHeartbeats 4000000 in
theorem si113_0 (X : CX) (l : Launch) : ∀ q ∈ ([(0, iP 1 (fAld 1)), (1, iP 2 (fAld 2)), (2, iCK 5 7 114 3 2 2), (5, iP 6 (fLst 3)), (6, iP 7 (fJld 3)), (7, iP 8 (fK (.inr (.inl 0)))), (8, iP 9 fLcmp), (9, iB 12 31 (b1 (fun x => decide (x ≠ 0)))), (12, iP 13 (fAld 1)), (13, iP 14 (fAld 2)), (14, iP 15 (fK (.inr (.inl 0)))), (15, iCK 18 7 115 5 3 0), (18, iP 19 (fAld 0)), (19, iP 20 (fAld 2)), (20, iRI 23 (gtI 11)), (23, iP 24 (fK (.inl 1))), (24, iP 25 (f2I (fun x y => x + y))), (25, iW 28 (ptI 39)), (28, iP 54 fGo), (31, iP 32 (fAld 0)), (32, iCK 35 8 116 1 1 1), (35, iB 38 54 (b1 (fun x => decide (x = 0)))), (38, iP 39 (fAld 1)), (39, iP 40 (fAld 2)), (40, iP 41 (fJld 3)), (41, iCK 44 7 115 5 3 0), (44, iP 45 (fAld 0)), (45, iP 46 (fAld 2)), (46, iRI 49 (gtI 2)), (49, iP 50 (fK (.inl 1))), (50, iP 51 (f2I (fun x y => x + y))), (51, iW 54 (ptI 39)), (54, iRet rV)] : List (Nat × AS)), SI X l 113 q.1 q.2 := List.forall_mem_cons.mpr ⟨
  s_aload_n (k := 1) (show decode (cod 113) 0 = .ok (.aload_n 1, 1) by decide +kernel), List.forall_mem_cons.mpr ⟨
  s_aload_n (k := 2) (show decode (cod 113) 1 = .ok (.aload_n 2, 1) by decide +kernel), List.forall_mem_cons.mpr ⟨
  s_invK rfl (rcv_virt (show decode (cod 113) 2 = .ok (.invokevirtual 115, 3) by decide +kernel) cld_113_114 ⟨6, _, _, rfl, by decide, rfl⟩ wd_563 wd_564 wd_565), List.forall_mem_cons.mpr ⟨
  s_lstore_n (k := 3) (show decode (cod 113) 5 = .ok (.lstore_n 3, 1) by decide +kernel), List.forall_mem_cons.mpr ⟨
  s_lload_n (k := 3) (show decode (cod 113) 6 = .ok (.lload_n 3, 1) by decide +kernel), List.forall_mem_cons.mpr ⟨
  s_lconst (show decode (cod 113) 7 = .ok (.lconst 0, 1) by decide +kernel) rfl, List.forall_mem_cons.mpr ⟨
  s_lcmp (show decode (cod 113) 8 = .ok (.lcmp, 1) by decide +kernel), List.forall_mem_cons.mpr ⟨
  s_ifne (show decode (cod 113) 9 = .ok (.ifCond .ne 22, 3) by decide +kernel) (by decide), List.forall_mem_cons.mpr ⟨
  s_aload_n (k := 1) (show decode (cod 113) 12 = .ok (.aload_n 1, 1) by decide +kernel), List.forall_mem_cons.mpr ⟨
  s_aload_n (k := 2) (show decode (cod 113) 13 = .ok (.aload_n 2, 1) by decide +kernel), List.forall_mem_cons.mpr ⟨
  s_lconst (show decode (cod 113) 14 = .ok (.lconst 0, 1) by decide +kernel) rfl, List.forall_mem_cons.mpr ⟨
  s_invK rfl (rcv_virt (show decode (cod 113) 15 = .ok (.invokevirtual 119, 3) by decide +kernel) cld_113_115 ⟨6, _, _, rfl, by decide, rfl⟩ wd_567 wd_568 wd_569), List.forall_mem_cons.mpr ⟨
  s_aload_n (k := 0) (show decode (cod 113) 18 = .ok (.aload_n 0, 1) by decide +kernel), List.forall_mem_cons.mpr ⟨
  s_aload_n (k := 2) (show decode (cod 113) 19 = .ok (.aload_n 2, 1) by decide +kernel), List.forall_mem_cons.mpr ⟨
  s_getI (show decode (cod 113) 20 = .ok (.getfield 122, 3) by decide +kernel) wd_570 (Or.inl rfl) (Or.inl rfl), List.forall_mem_cons.mpr ⟨
  s_iconst (show decode (cod 113) 23 = .ok (.iconst 1, 1) by decide +kernel) rfl, List.forall_mem_cons.mpr ⟨
  s_iadd (show decode (cod 113) 24 = .ok (.iadd, 1) by decide +kernel), List.forall_mem_cons.mpr ⟨
  s_putI (show decode (cod 113) 25 = .ok (.putfield 32, 3) by decide +kernel) wd_79 (Or.inl rfl) (Or.inl rfl) rfl, List.forall_mem_cons.mpr ⟨
  s_goto (show decode (cod 113) 28 = .ok (.goto 26, 3) by decide +kernel) (by decide), List.forall_mem_cons.mpr ⟨
  s_aload_n (k := 0) (show decode (cod 113) 31 = .ok (.aload_n 0, 1) by decide +kernel), List.forall_mem_cons.mpr ⟨
  s_invK rfl (rcv_virt (show decode (cod 113) 32 = .ok (.invokevirtual 125, 3) by decide +kernel) cld_113_116 ⟨7, _, _, rfl, by decide, rfl⟩ wd_572 wd_573 wd_574), List.forall_mem_cons.mpr ⟨
  s_ifeq (show decode (cod 113) 35 = .ok (.ifCond .eq 19, 3) by decide +kernel) (by decide), List.forall_mem_cons.mpr ⟨
  s_aload_n (k := 1) (show decode (cod 113) 38 = .ok (.aload_n 1, 1) by decide +kernel), List.forall_mem_cons.mpr ⟨
  s_aload_n (k := 2) (show decode (cod 113) 39 = .ok (.aload_n 2, 1) by decide +kernel), List.forall_mem_cons.mpr ⟨
  s_lload_n (k := 3) (show decode (cod 113) 40 = .ok (.lload_n 3, 1) by decide +kernel), List.forall_mem_cons.mpr ⟨
  s_invK rfl (rcv_virt (show decode (cod 113) 41 = .ok (.invokevirtual 119, 3) by decide +kernel) cld_113_115 ⟨6, _, _, rfl, by decide, rfl⟩ wd_567 wd_568 wd_569), List.forall_mem_cons.mpr ⟨
  s_aload_n (k := 0) (show decode (cod 113) 44 = .ok (.aload_n 0, 1) by decide +kernel), List.forall_mem_cons.mpr ⟨
  s_aload_n (k := 2) (show decode (cod 113) 45 = .ok (.aload_n 2, 1) by decide +kernel), List.forall_mem_cons.mpr ⟨
  s_getI (show decode (cod 113) 46 = .ok (.getfield 128, 3) by decide +kernel) wd_575 (Or.inr wd_576) (Or.inl rfl), List.forall_mem_cons.mpr ⟨
  s_iconst (show decode (cod 113) 49 = .ok (.iconst 1, 1) by decide +kernel) rfl, List.forall_mem_cons.mpr ⟨
  s_iadd (show decode (cod 113) 50 = .ok (.iadd, 1) by decide +kernel), List.forall_mem_cons.mpr ⟨
  s_putI (show decode (cod 113) 51 = .ok (.putfield 32, 3) by decide +kernel) wd_79 (Or.inl rfl) (Or.inl rfl) rfl, List.forall_mem_cons.mpr ⟨
  s_ret (show decode (cod 113) 54 = .ok (.return_, 1) by decide +kernel) rV_ok (fun h => by cases h), fun _ h => by cases h⟩⟩⟩⟩⟩⟩⟩⟩⟩⟩⟩⟩⟩⟩⟩⟩⟩⟩⟩⟩⟩⟩⟩⟩⟩⟩⟩⟩⟩⟩⟩⟩⟩
set_option maxRecDepth 100000 in
theorem si113 (X : CX) (l : Launch) : ∀ q ∈ pt113, SI X l 113 q.1 q.2 :=  si113_0 X l
set_option maxRecDepth 100000 in
set_option maxHeartbeats 4000000 in
theorem si114_0 (X : CX) (l : Launch) : ∀ q ∈ ([(0, iP 1 (fAld 1)), (1, iCK 4 3 90 1 1 1), (4, iP 5 (fIst 2)), (5, iP 6 (fIld 2)), (6, iP 7 (fK (.inl 5))), (7, iB 10 26 (b2 (fun x y => decide (y ≤ x)))), (10, iP 11 (fAld 0)), (11, iRR 14 (gtR 29)), (14, iP 15 (fIld 2)), (15, iRJ 16 qAJ), (16, iP 17 (fAld 0)), (17, iRR 20 (gtR 30)), (20, iP 21 (fIld 2)), (21, iRJ 22 qAJ), (22, iP 23 fLcmp), (23, iB 26 28 (b1 (fun x => decide (x < 0)))), (26, iP 27 (fK (.inr (.inl 0)))), (27, iRet rJ), (28, iP 29 (fAld 0)), (29, iRR 32 (gtR 29)), (32, iP 33 (fIld 2)), (33, iRJ 34 qAJ), (34, iP 35 (fK (.inr (.inl 1)))), (35, iP 36 (f2J (fun x y => x + y))), (36, iRet rJ)] : List (Nat × AS)), SI X l 114 q.1 q.2 := List.forall_mem_cons.mpr ⟨
  s_aload_n (k := 1) (show decode (cod 114) 0 = .ok (.aload_n 1, 1) by decide +kernel), List.forall_mem_cons.mpr ⟨
  s_invK rfl (rcv_virt (show decode (cod 114) 1 = .ok (.invokevirtual 105, 3) by decide +kernel) cld_114_90 ⟨2, _, _, rfl, by decide, rfl⟩ wd_561 wd_464 wd_465), List.forall_mem_cons.mpr ⟨
  s_istore_n (k := 2) (show decode (cod 114) 4 = .ok (.istore_n 2, 1) by decide +kernel), List.forall_mem_cons.mpr ⟨
  s_iload_n (k := 2) (show decode (cod 114) 5 = .ok (.iload_n 2, 1) by decide +kernel), List.forall_mem_cons.mpr ⟨
  s_iconst (show decode (cod 114) 6 = .ok (.iconst 5, 1) by decide +kernel) rfl, List.forall_mem_cons.mpr ⟨
  s_icmpge (show decode (cod 114) 7 = .ok (.if_icmp .ge 19, 3) by decide +kernel) (by decide), List.forall_mem_cons.mpr ⟨
  s_aload_n (k := 0) (show decode (cod 114) 10 = .ok (.aload_n 0, 1) by decide +kernel), List.forall_mem_cons.mpr ⟨
  s_getR (show decode (cod 114) 11 = .ok (.getfield 39, 3) by decide +kernel) wd_90 (Or.inl rfl) rfl, List.forall_mem_cons.mpr ⟨
  s_iload_n (k := 2) (show decode (cod 114) 14 = .ok (.iload_n 2, 1) by decide +kernel), List.forall_mem_cons.mpr ⟨
  s_laload (show decode (cod 114) 15 = .ok (.laload, 1) by decide +kernel), List.forall_mem_cons.mpr ⟨
  s_aload_n (k := 0) (show decode (cod 114) 16 = .ok (.aload_n 0, 1) by decide +kernel), List.forall_mem_cons.mpr ⟨
  s_getR (show decode (cod 114) 17 = .ok (.getfield 43, 3) by decide +kernel) wd_91 (Or.inl rfl) rfl, List.forall_mem_cons.mpr ⟨
  s_iload_n (k := 2) (show decode (cod 114) 20 = .ok (.iload_n 2, 1) by decide +kernel), List.forall_mem_cons.mpr ⟨
  s_laload (show decode (cod 114) 21 = .ok (.laload, 1) by decide +kernel), List.forall_mem_cons.mpr ⟨
  s_lcmp (show decode (cod 114) 22 = .ok (.lcmp, 1) by decide +kernel), List.forall_mem_cons.mpr ⟨
  s_iflt (show decode (cod 114) 23 = .ok (.ifCond .lt 5, 3) by decide +kernel) (by decide), List.forall_mem_cons.mpr ⟨
  s_lconst (show decode (cod 114) 26 = .ok (.lconst 0, 1) by decide +kernel) rfl, List.forall_mem_cons.mpr ⟨
  s_ret (show decode (cod 114) 27 = .ok (.lreturn, 1) by decide +kernel) rJ_ok (fun h => by cases h), List.forall_mem_cons.mpr ⟨
  s_aload_n (k := 0) (show decode (cod 114) 28 = .ok (.aload_n 0, 1) by decide +kernel), List.forall_mem_cons.mpr ⟨
  s_getR (show decode (cod 114) 29 = .ok (.getfield 39, 3) by decide +kernel) wd_90 (Or.inl rfl) rfl, List.forall_mem_cons.mpr ⟨
  s_iload_n (k := 2) (show decode (cod 114) 32 = .ok (.iload_n 2, 1) by decide +kernel), List.forall_mem_cons.mpr ⟨
  s_laload (show decode (cod 114) 33 = .ok (.laload, 1) by decide +kernel), List.forall_mem_cons.mpr ⟨
  s_lconst (show decode (cod 114) 34 = .ok (.lconst 1, 1) by decide +kernel) rfl, List.forall_mem_cons.mpr ⟨
  s_ladd (show decode (cod 114) 35 = .ok (.ladd, 1) by decide +kernel), List.forall_mem_cons.mpr ⟨
  s_ret (show decode (cod 114) 36 = .ok (.lreturn, 1) by decide +kernel) rJ_ok (fun h => by cases h), fun _ h => by cases h⟩⟩⟩⟩⟩⟩⟩⟩⟩⟩⟩⟩⟩⟩⟩⟩⟩⟩⟩⟩⟩⟩⟩⟩⟩
set_option maxRecDepth 100000 in
theorem si114 (X : CX) (l : Launch) : ∀ q ∈ pt114, SI X l 114 q.1 q.2 :=  si114_0 X l
set_option maxRecDepth 100000 in
set_option maxHeartbeats 4000000 in
theorem si115_0 (X : CX) (l : Launch) : ∀ q ∈ ([(0, iP 1 (fAld 1)), (1, iCK 4 3 90 1 1 1), (4, iP 6 (fIst 4)), (6, iP 8 (fIld 4)), (8, iP 9 (fK (.inl 5))), (9, iB 12 20 (b2 (fun x y => decide (y ≤ x)))), (12, iP 13 (fAld 0)), (13, iRR 16 (gtR 29)), (16, iP 18 (fIld 4)), (18, iP 19 (fJld 2)), (19, iW 20 wAJ), (20, iRet rV)] : List (Nat × AS)), SI X l 115 q.1 q.2 := List.forall_mem_cons.mpr ⟨
  s_aload_n (k := 1) (show decode (cod 115) 0 = .ok (.aload_n 1, 1) by decide +kernel), List.forall_mem_cons.mpr ⟨
  s_invK rfl (rcv_virt (show decode (cod 115) 1 = .ok (.invokevirtual 105, 3) by decide +kernel) cld_115_90 ⟨2, _, _, rfl, by decide, rfl⟩ wd_561 wd_464 wd_465), List.forall_mem_cons.mpr ⟨
  s_istore (k := 4) (show decode (cod 115) 4 = .ok (.istore 4, 2) by decide +kernel), List.forall_mem_cons.mpr ⟨
  s_iload (k := 4) (show decode (cod 115) 6 = .ok (.iload 4, 2) by decide +kernel), List.forall_mem_cons.mpr ⟨
  s_iconst (show decode (cod 115) 8 = .ok (.iconst 5, 1) by decide +kernel) rfl, List.forall_mem_cons.mpr ⟨
  s_icmpge (show decode (cod 115) 9 = .ok (.if_icmp .ge 11, 3) by decide +kernel) (by decide), List.forall_mem_cons.mpr ⟨
  s_aload_n (k := 0) (show decode (cod 115) 12 = .ok (.aload_n 0, 1) by decide +kernel), List.forall_mem_cons.mpr ⟨
  s_getR (show decode (cod 115) 13 = .ok (.getfield 39, 3) by decide +kernel) wd_90 (Or.inl rfl) rfl, List.forall_mem_cons.mpr ⟨
  s_iload (k := 4) (show decode (cod 115) 16 = .ok (.iload 4, 2) by decide +kernel), List.forall_mem_cons.mpr ⟨
  s_lload_n (k := 2) (show decode (cod 115) 18 = .ok (.lload_n 2, 1) by decide +kernel), List.forall_mem_cons.mpr ⟨
  s_lastore (show decode (cod 115) 19 = .ok (.lastore, 1) by decide +kernel), List.forall_mem_cons.mpr ⟨
  s_ret (show decode (cod 115) 20 = .ok (.return_, 1) by decide +kernel) rV_ok (fun h => by cases h), fun _ h => by cases h⟩⟩⟩⟩⟩⟩⟩⟩⟩⟩⟩⟩
set_option maxRecDepth 100000 in
theorem si115 (X : CX) (l : Launch) : ∀ q ∈ pt115, SI X l 115 q.1 q.2 :=  si115_0 X l
set_option maxRecDepth 100000 in
set_option maxHeartbeats 4000000 in
theorem si116_0 (X : CX) (l : Launch) : ∀ q ∈ ([(0, iP 1 (fAld 0)), (1, iRI 4 (gtI 36)), (4, iP 7 (fK (.inl 20000))), (7, iB 10 17 (b2 (fun x y => decide (x < y)))), (10, iP 11 (fAld 0)), (11, iP 12 (fK (.inl 1))), (12, iW 15 (ptZ 37)), (15, iP 16 (fK (.inl 0))), (16, iRet rZ), (17, iP 18 (fAld 0)), (18, iP 19 fDup), (19, iRI 22 (gtI 36)), (22, iP 23 (fK (.inl 1))), (23, iP 24 (f2I (fun x y => x + y))), (24, iW 27 (ptI 36)), (27, iP 28 (fAld 0)), (28, iP 29 fDup), (29, iRI 32 (gtI 35)), (32, iP 33 (fK (.inl 1))), (33, iP 34 (f2I (fun x y => x + y))), (34, iW 37 (ptI 35)), (37, iP 38 (fK (.inl 1))), (38, iRet rZ)] : List (Nat × AS)), SI X l 116 q.1 q.2 := List.forall_mem_cons.mpr ⟨
  s_aload_n (k := 0) (show decode (cod 116) 0 = .ok (.aload_n 0, 1) by decide +kernel), List.forall_mem_cons.mpr ⟨
  s_getI (show decode (cod 116) 1 = .ok (.getfield 21, 3) by decide +kernel) wd_76 (Or.inl rfl) (Or.inl rfl), List.forall_mem_cons.mpr ⟨
  s_sipush (show decode (cod 116) 4 = .ok (.sipush 20000, 3) by decide +kernel) rfl, List.forall_mem_cons.mpr ⟨
  s_icmplt (show decode (cod 116) 7 = .ok (.if_icmp .lt 10, 3) by decide +kernel) (by decide), List.forall_mem_cons.mpr ⟨
  s_aload_n (k := 0) (show decode (cod 116) 10 = .ok (.aload_n 0, 1) by decide +kernel), List.forall_mem_cons.mpr ⟨
  s_iconst (show decode (cod 116) 11 = .ok (.iconst 1, 1) by decide +kernel) rfl, List.forall_mem_cons.mpr ⟨
  s_putZ (show decode (cod 116) 12 = .ok (.putfield 24, 3) by decide +kernel) wd_77 (Or.inl rfl) (Or.inl rfl) rfl, List.forall_mem_cons.mpr ⟨
  s_iconst (show decode (cod 116) 15 = .ok (.iconst 0, 1) by decide +kernel) rfl, List.forall_mem_cons.mpr ⟨
  s_ret (show decode (cod 116) 16 = .ok (.ireturn, 1) by decide +kernel) rZ_ok (fun _ => rZ_b), List.forall_mem_cons.mpr ⟨
  s_aload_n (k := 0) (show decode (cod 116) 17 = .ok (.aload_n 0, 1) by decide +kernel), List.forall_mem_cons.mpr ⟨
  s_dup (show decode (cod 116) 18 = .ok (.dup, 1) by decide +kernel), List.forall_mem_cons.mpr ⟨
  s_getI (show decode (cod 116) 19 = .ok (.getfield 21, 3) by decide +kernel) wd_76 (Or.inl rfl) (Or.inl rfl), List.forall_mem_cons.mpr ⟨
  s_iconst (show decode (cod 116) 22 = .ok (.iconst 1, 1) by decide +kernel) rfl, List.forall_mem_cons.mpr ⟨
  s_iadd (show decode (cod 116) 23 = .ok (.iadd, 1) by decide +kernel), List.forall_mem_cons.mpr ⟨
  s_putI (show decode (cod 116) 24 = .ok (.putfield 21, 3) by decide +kernel) wd_76 (Or.inl rfl) (Or.inl rfl) rfl, List.forall_mem_cons.mpr ⟨
  s_aload_n (k := 0) (show decode (cod 116) 27 = .ok (.aload_n 0, 1) by decide +kernel), List.forall_mem_cons.mpr ⟨
  s_dup (show decode (cod 116) 28 = .ok (.dup, 1) by decide +kernel), List.forall_mem_cons.mpr ⟨
  s_getI (show decode (cod 116) 29 = .ok (.getfield 18, 3) by decide +kernel) wd_75 (Or.inl rfl) (Or.inl rfl), List.forall_mem_cons.mpr ⟨
  s_iconst (show decode (cod 116) 32 = .ok (.iconst 1, 1) by decide +kernel) rfl, List.forall_mem_cons.mpr ⟨
  s_iadd (show decode (cod 116) 33 = .ok (.iadd, 1) by decide +kernel), List.forall_mem_cons.mpr ⟨
  s_putI (show decode (cod 116) 34 = .ok (.putfield 18, 3) by decide +kernel) wd_75 (Or.inl rfl) (Or.inl rfl) rfl, List.forall_mem_cons.mpr ⟨
  s_iconst (show decode (cod 116) 37 = .ok (.iconst 1, 1) by decide +kernel) rfl, List.forall_mem_cons.mpr ⟨
  s_ret (show decode (cod 116) 38 = .ok (.ireturn, 1) by decide +kernel) rZ_ok (fun _ => rZ_b), fun _ h => by cases h⟩⟩⟩⟩⟩⟩⟩⟩⟩⟩⟩⟩⟩⟩⟩⟩⟩⟩⟩⟩⟩⟩⟩
set_option maxRecDepth 100000 in
theorem si116 (X : CX) (l : Launch) : ∀ q ∈ pt116, SI X l 116 q.1 q.2 :=  si116_0 X l
set_option maxRecDepth 100000 in
set_option maxHeartbeats 4000000 in
theorem si117_0 (X : CX) (l : Launch) : ∀ q ∈ ([(0, iP 1 (fAld 0)), (1, iCK 4 8 116 1 1 1), (4, iB 7 50 (b1 (fun x => decide (x = 0)))), (7, iP 8 (fAld 2)), (8, iRR 11 (gtR 6)), (11, iP 12 (fAld 1)), (12, iP 13 (fAld 2)), (13, iRR 16 (gtR 0)), (16, iCK 19 7 111 5 2 2), (19, iP 20 (fAld 1)), (20, iP 21 (fAld 2)), (21, iRR 24 (gtR 5)), (24, iCK 27 7 111 5 2 2), (27, iP 28 (fAld 1)), (28, iP 29 (fAld 0)), (29, iRI 32 (gtI 39)), (32, iP 33 (fK (.inl 1))), (33, iP 34 (f2I (fun x y => x + y))), (34, iCK 37 7 109 7 5 0), (37, iP 38 (fAld 0)), (38, iP 39 (fAld 2)), (39, iRR 42 (gtR 6)), (42, iW 45 (ptR 38)), (45, iP 46 (fAld 0)), (46, iP 47 (fK (.inl 0))), (47, iW 50 (ptI 39)), (50, iRet rV)] : List (Nat × AS)), SI X l 117 q.1 q.2 := List.forall_mem_cons.mpr ⟨
  s_aload_n (k := 0) (show decode (cod 117) 0 = .ok (.aload_n 0, 1) by decide +kernel), List.forall_mem_cons.mpr ⟨
  s_invK rfl (rcv_virt (show decode (cod 117) 1 = .ok (.invokevirtual 125, 3) by decide +kernel) cld_117_116 ⟨7, _, _, rfl, by decide, rfl⟩ wd_572 wd_573 wd_574), List.forall_mem_cons.mpr ⟨
  s_ifeq (show decode (cod 117) 4 = .ok (.ifCond .eq 46, 3) by decide +kernel) (by decide), List.forall_mem_cons.mpr ⟨
  s_aload_n (k := 2) (show decode (cod 117) 7 = .ok (.aload_n 2, 1) by decide +kernel), List.forall_mem_cons.mpr ⟨
  s_getR (show decode (cod 117) 8 = .ok (.getfield 129, 3) by decide +kernel) wd_577 (Or.inl rfl) rfl, List.forall_mem_cons.mpr ⟨
  s_aload_n (k := 1) (show decode (cod 117) 11 = .ok (.aload_n 1, 1) by decide +kernel), List.forall_mem_cons.mpr ⟨
  s_aload_n (k := 2) (show decode (cod 117) 12 = .ok (.aload_n 2, 1) by decide +kernel), List.forall_mem_cons.mpr ⟨
  s_getR (show decode (cod 117) 13 = .ok (.getfield 132, 3) by decide +kernel) wd_578 (Or.inr wd_415) rfl, List.forall_mem_cons.mpr ⟨
  s_invK rfl (rcv_virt (show decode (cod 117) 16 = .ok (.invokevirtual 68, 3) by decide +kernel) cld_117_111 ⟨6, _, _, rfl, by decide, rfl⟩ wd_535 wd_536 wd_537), List.forall_mem_cons.mpr ⟨
  s_aload_n (k := 1) (show decode (cod 117) 19 = .ok (.aload_n 1, 1) by decide +kernel), List.forall_mem_cons.mpr ⟨
  s_aload_n (k := 2) (show decode (cod 117) 20 = .ok (.aload_n 2, 1) by decide +kernel), List.forall_mem_cons.mpr ⟨
  s_getR (show decode (cod 117) 21 = .ok (.getfield 133, 3) by decide +kernel) wd_579 (Or.inl rfl) rfl, List.forall_mem_cons.mpr ⟨
  s_invK rfl (rcv_virt (show decode (cod 117) 24 = .ok (.invokevirtual 68, 3) by decide +kernel) cld_117_111 ⟨6, _, _, rfl, by decide, rfl⟩ wd_535 wd_536 wd_537), List.forall_mem_cons.mpr ⟨
  s_aload_n (k := 1) (show decode (cod 117) 27 = .ok (.aload_n 1, 1) by decide +kernel), List.forall_mem_cons.mpr ⟨
  s_aload_n (k := 0) (show decode (cod 117) 28 = .ok (.aload_n 0, 1) by decide +kernel), List.forall_mem_cons.mpr ⟨
  s_getI (show decode (cod 117) 29 = .ok (.getfield 32, 3) by decide +kernel) wd_79 (Or.inl rfl) (Or.inl rfl), List.forall_mem_cons.mpr ⟨
  s_iconst (show decode (cod 117) 32 = .ok (.iconst 1, 1) by decide +kernel) rfl, List.forall_mem_cons.mpr ⟨
  s_iadd (show decode (cod 117) 33 = .ok (.iadd, 1) by decide +kernel), List.forall_mem_cons.mpr ⟨
  s_invK rfl (rcv_virt (show decode (cod 117) 34 = .ok (.invokevirtual 35, 3) by decide +kernel) cld_117_109 ⟨6, _, _, rfl, by decide, rfl⟩ wd_517 wd_518 wd_519), List.forall_mem_cons.mpr ⟨
  s_aload_n (k := 0) (show decode (cod 117) 37 = .ok (.aload_n 0, 1) by decide +kernel), List.forall_mem_cons.mpr ⟨
  s_aload_n (k := 2) (show decode (cod 117) 38 = .ok (.aload_n 2, 1) by decide +kernel), List.forall_mem_cons.mpr ⟨
  s_getR (show decode (cod 117) 39 = .ok (.getfield 129, 3) by decide +kernel) wd_577 (Or.inl rfl) rfl, List.forall_mem_cons.mpr ⟨
  s_putR (show decode (cod 117) 42 = .ok (.putfield 28, 3) by decide +kernel) wd_78 (Or.inl rfl) (Or.inl rfl) rfl, List.forall_mem_cons.mpr ⟨
  s_aload_n (k := 0) (show decode (cod 117) 45 = .ok (.aload_n 0, 1) by decide +kernel), List.forall_mem_cons.mpr ⟨
  s_iconst (show decode (cod 117) 46 = .ok (.iconst 0, 1) by decide +kernel) rfl, List.forall_mem_cons.mpr ⟨
  s_putI (show decode (cod 117) 47 = .ok (.putfield 32, 3) by decide +kernel) wd_79 (Or.inl rfl) (Or.inl rfl) rfl, List.forall_mem_cons.mpr ⟨
  s_ret (show decode (cod 117) 50 = .ok (.return_, 1) by decide +kernel) rV_ok (fun h => by cases h), fun _ h => by cases h⟩⟩⟩⟩⟩⟩⟩⟩⟩⟩⟩⟩⟩⟩⟩⟩⟩⟩⟩⟩⟩⟩⟩⟩⟩⟩⟩
set_option maxRecDepth 100000 in
theorem si117 (X : CX) (l : Launch) : ∀ q ∈ pt117, SI X l 117 q.1 q.2 :=  si117_0 X l
set_option maxRecDepth 100000 in
set_option maxHeartbeats 4000000 in
theorem si118_0 (X : CX) (l : Launch) : ∀ q ∈ ([(0, iP 1 (fAld 0)), (1, iCK 4 8 116 1 1 1), (4, iB 7 8 (b1 (fun x => decide (x ≠ 0)))), (7, iRet rV), (8, iP 9 (fAld 0)), (9, iP 10 fDup), (10, iRI 13 (gtI 39)), (13, iP 14 (fK (.inl 1))), (14, iP 15 (f2I (fun x y => x + y))), (15, iW 18 (ptI 39)), (18, iP 19 (fAld 0)), (19, iCK 22 8 119 1 1 1), (22, iB 25 41 (b1 (fun x => decide (x = 0)))), (25, iP 26 (fAld 1)), (26, iP 27 (fAld 0)), (27, iRI 30 (gtI 35)), (30, iW 33 (ptI 9)), (33, iP 34 (fAld 0)), (34, iP 35 (fK (.inl 0))), (35, iW 38 (ptI 35)), (38, iP 74 fGo), (41, iP 42 (fAld 0)), (42, iRI 45 (gtI 34)), (45, iP 46 (fK (.inl 1))), (46, iB 49 64 (b2 (fun x y => decide (x = y)))), (49, iP 50 (fAld 0)), (50, iRI 53 (gtI 34)), (53, iP 54 (fK (.inl 2))), (54, iB 57 74 (b2 (fun x y => decide (x ≠ y)))), (57, iP 58 (fAld 0)), (58, iCK 61 8 120 1 1 1), (61, iB 64 74 (b1 (fun x => decide (x = 0)))), (64, iP 65 (fAld 0)), (65, iP 66 (fAld 1)), (66, iRI 69 (gtI 7)), (69, iP 70 (fK (.inl 1))), (70, iP 71 (f2I (fun x y => x + y))), (71, iW 74 (ptI 39)), (74, iRet rV)] : List (Nat × AS)), SI X l 118 q.1 q.2 := List.forall_mem_cons.mpr ⟨
  s_aload_n (k := 0) (show decode (cod 118) 0 = .ok (.aload_n 0, 1) by decide +kernel), List.forall_mem_cons.mpr ⟨
  s_invK rfl (rcv_virt (show decode (cod 118) 1 = .ok (.invokevirtual 125, 3) by decide +kernel) cld_118_116 ⟨7, _, _, rfl, by decide, rfl⟩ wd_572 wd_573 wd_574), List.forall_mem_cons.mpr ⟨
  s_ifne (show decode (cod 118) 4 = .ok (.ifCond .ne 4, 3) by decide +kernel) (by decide), List.forall_mem_cons.mpr ⟨
  s_ret (show decode (cod 118) 7 = .ok (.return_, 1) by decide +kernel) rV_ok (fun h => by cases h), List.forall_mem_cons.mpr ⟨
  s_aload_n (k := 0) (show decode (cod 118) 8 = .ok (.aload_n 0, 1) by decide +kernel), List.forall_mem_cons.mpr ⟨
  s_dup (show decode (cod 118) 9 = .ok (.dup, 1) by decide +kernel), List.forall_mem_cons.mpr ⟨
  s_getI (show decode (cod 118) 10 = .ok (.getfield 32, 3) by decide +kernel) wd_79 (Or.inl rfl) (Or.inl rfl), List.forall_mem_cons.mpr ⟨
  s_iconst (show decode (cod 118) 13 = .ok (.iconst 1, 1) by decide +kernel) rfl, List.forall_mem_cons.mpr ⟨
  s_iadd (show decode (cod 118) 14 = .ok (.iadd, 1) by decide +kernel), List.forall_mem_cons.mpr ⟨
  s_putI (show decode (cod 118) 15 = .ok (.putfield 32, 3) by decide +kernel) wd_79 (Or.inl rfl) (Or.inl rfl) rfl, List.forall_mem_cons.mpr ⟨
  s_aload_n (k := 0) (show decode (cod 118) 18 = .ok (.aload_n 0, 1) by decide +kernel), List.forall_mem_cons.mpr ⟨
  s_invK rfl (rcv_virt (show decode (cod 118) 19 = .ok (.invokevirtual 101, 3) by decide +kernel) cld_118_119 ⟨7, _, _, rfl, by decide, rfl⟩ wd_581 wd_582 wd_583), List.forall_mem_cons.mpr ⟨
  s_ifeq (show decode (cod 118) 22 = .ok (.ifCond .eq 19, 3) by decide +kernel) (by decide), List.forall_mem_cons.mpr ⟨
  s_aload_n (k := 1) (show decode (cod 118) 25 = .ok (.aload_n 1, 1) by decide +kernel), List.forall_mem_cons.mpr ⟨
  s_aload_n (k := 0) (show decode (cod 118) 26 = .ok (.aload_n 0, 1) by decide +kernel), List.forall_mem_cons.mpr ⟨
  s_getI (show decode (cod 118) 27 = .ok (.getfield 18, 3) by decide +kernel) wd_75 (Or.inl rfl) (Or.inl rfl), List.forall_mem_cons.mpr ⟨
  s_putI (show decode (cod 118) 30 = .ok (.putfield 136, 3) by decide +kernel) wd_584 (Or.inl rfl) (Or.inl rfl) rfl, List.forall_mem_cons.mpr ⟨
  s_aload_n (k := 0) (show decode (cod 118) 33 = .ok (.aload_n 0, 1) by decide +kernel), List.forall_mem_cons.mpr ⟨
  s_iconst (show decode (cod 118) 34 = .ok (.iconst 0, 1) by decide +kernel) rfl, List.forall_mem_cons.mpr ⟨
  s_putI (show decode (cod 118) 35 = .ok (.putfield 18, 3) by decide +kernel) wd_75 (Or.inl rfl) (Or.inl rfl) rfl, List.forall_mem_cons.mpr ⟨
  s_goto (show decode (cod 118) 38 = .ok (.goto 36, 3) by decide +kernel) (by decide), List.forall_mem_cons.mpr ⟨
  s_aload_n (k := 0) (show decode (cod 118) 41 = .ok (.aload_n 0, 1) by decide +kernel), List.forall_mem_cons.mpr ⟨
  s_getI (show decode (cod 118) 42 = .ok (.getfield 15, 3) by decide +kernel) wd_74 (Or.inl rfl) (Or.inl rfl), List.forall_mem_cons.mpr ⟨
  s_iconst (show decode (cod 118) 45 = .ok (.iconst 1, 1) by decide +kernel) rfl, List.forall_mem_cons.mpr ⟨
  s_icmpeq (show decode (cod 118) 46 = .ok (.if_icmp .eq 18, 3) by decide +kernel) (by decide), List.forall_mem_cons.mpr ⟨
  s_aload_n (k := 0) (show decode (cod 118) 49 = .ok (.aload_n 0, 1) by decide +kernel), List.forall_mem_cons.mpr ⟨
  s_getI (show decode (cod 118) 50 = .ok (.getfield 15, 3) by decide +kernel) wd_74 (Or.inl rfl) (Or.inl rfl), List.forall_mem_cons.mpr ⟨
  s_iconst (show decode (cod 118) 53 = .ok (.iconst 2, 1) by decide +kernel) rfl, List.forall_mem_cons.mpr ⟨
  s_icmpne (show decode (cod 118) 54 = .ok (.if_icmp .ne 20, 3) by decide +kernel) (by decide), List.forall_mem_cons.mpr ⟨
  s_aload_n (k := 0) (show decode (cod 118) 57 = .ok (.aload_n 0, 1) by decide +kernel), List.forall_mem_cons.mpr ⟨
  s_invK rfl (rcv_virt (show decode (cod 118) 58 = .ok (.invokevirtual 139, 3) by decide +kernel) cld_118_120 ⟨7, _, _, rfl, by decide, rfl⟩ wd_586 wd_587 wd_588), List.forall_mem_cons.mpr ⟨
  s_ifeq (show decode (cod 118) 61 = .ok (.ifCond .eq 13, 3) by decide +kernel) (by decide), List.forall_mem_cons.mpr ⟨
  s_aload_n (k := 0) (show decode (cod 118) 64 = .ok (.aload_n 0, 1) by decide +kernel), List.forall_mem_cons.mpr ⟨
  s_aload_n (k := 1) (show decode (cod 118) 65 = .ok (.aload_n 1, 1) by decide +kernel), List.forall_mem_cons.mpr ⟨
  s_getI (show decode (cod 118) 66 = .ok (.getfield 142, 3) by decide +kernel) wd_589 (Or.inl rfl) (Or.inl rfl), List.forall_mem_cons.mpr ⟨
  s_iconst (show decode (cod 118) 69 = .ok (.iconst 1, 1) by decide +kernel) rfl, List.forall_mem_cons.mpr ⟨
  s_iadd (show decode (cod 118) 70 = .ok (.iadd, 1) by decide +kernel), List.forall_mem_cons.mpr ⟨
  s_putI (show decode (cod 118) 71 = .ok (.putfield 32, 3) by decide +kernel) wd_79 (Or.inl rfl) (Or.inl rfl) rfl, List.forall_mem_cons.mpr ⟨
  s_ret (show decode (cod 118) 74 = .ok (.return_, 1) by decide +kernel) rV_ok (fun h => by cases h), fun _ h => by cases h⟩⟩⟩⟩⟩⟩⟩⟩⟩⟩⟩⟩⟩⟩⟩⟩⟩⟩⟩⟩⟩⟩⟩⟩⟩⟩⟩⟩⟩⟩⟩⟩⟩⟩⟩⟩⟩⟩⟩
set_option maxRecDepth 100000 in
theorem si118 (X : CX) (l : Launch) : ∀ q ∈ pt118, SI X l 118 q.1 q.2 :=  si118_0 X l
set_option maxRecDepth 100000 in
set_option maxHeartbeats 4000000 in
theorem si119_0 (X : CX) (l : Launch) : ∀ q ∈ ([(0, iP 1 (fAld 0)), (1, iRI 4 (gtI 34)), (4, iP 5 (fK (.inl 3))), (5, iB 8 16 (b2 (fun x y => decide (x = y)))), (8, iP 9 (fAld 0)), (9, iRI 12 (gtI 34)), (12, iP 13 (fK (.inl 4))), (13, iB 16 20 (b2 (fun x y => decide (x ≠ y)))), (16, iP 17 (fK (.inl 1))), (17, iP 21 fGo), (20, iP 21 (fK (.inl 0))), (21, iRet rZ)] : List (Nat × AS)), SI X l 119 q.1 q.2 := List.forall_mem_cons.mpr ⟨
  s_aload_n (k := 0) (show decode (cod 119) 0 = .ok (.aload_n 0, 1) by decide +kernel), List.forall_mem_cons.mpr ⟨
  s_getI (show decode (cod 119) 1 = .ok (.getfield 15, 3) by decide +kernel) wd_74 (Or.inl rfl) (Or.inl rfl), List.forall_mem_cons.mpr ⟨
  s_iconst (show decode (cod 119) 4 = .ok (.iconst 3, 1) by decide +kernel) rfl, List.forall_mem_cons.mpr ⟨
  s_icmpeq (show decode (cod 119) 5 = .ok (.if_icmp .eq 11, 3) by decide +kernel) (by decide), List.forall_mem_cons.mpr ⟨
  s_aload_n (k := 0) (show decode (cod 119) 8 = .ok (.aload_n 0, 1) by decide +kernel), List.forall_mem_cons.mpr ⟨
  s_getI (show decode (cod 119) 9 = .ok (.getfield 15, 3) by decide +kernel) wd_74 (Or.inl rfl) (Or.inl rfl), List.forall_mem_cons.mpr ⟨
  s_iconst (show decode (cod 119) 12 = .ok (.iconst 4, 1) by decide +kernel) rfl, List.forall_mem_cons.mpr ⟨
  s_icmpne (show decode (cod 119) 13 = .ok (.if_icmp .ne 7, 3) by decide +kernel) (by decide), List.forall_mem_cons.mpr ⟨
  s_iconst (show decode (cod 119) 16 = .ok (.iconst 1, 1) by decide +kernel) rfl, List.forall_mem_cons.mpr ⟨
  s_goto (show decode (cod 119) 17 = .ok (.goto 4, 3) by decide +kernel) (by decide), List.forall_mem_cons.mpr ⟨
  s_iconst (show decode (cod 119) 20 = .ok (.iconst 0, 1) by decide +kernel) rfl, List.forall_mem_cons.mpr ⟨
  s_ret (show decode (cod 119) 21 = .ok (.ireturn, 1) by decide +kernel) rZ_ok (fun _ => rZ_b), fun _ h => by cases h⟩⟩⟩⟩⟩⟩⟩⟩⟩⟩⟩⟩
set_option maxRecDepth 100000 in
theorem si119 (X : CX) (l : Launch) : ∀ q ∈ pt119, SI X l 119 q.1 q.2 :=  si119_0 X l
set_option maxRecDepth 100000 in
set_option maxHeartbeats 4000000 in
theorem si120_0 (X : CX) (l : Launch) : ∀ q ∈ ([(0, iP 1 (fAld 0)), (1, iP 2 (fAld 0)), (2, iRI 5 (gtI 33)), (5, iP 7 (fK (.inl 1103515245))), (7, iP 8 (f2I (fun x y => x * y))), (8, iP 11 (fK (.inl 12345))), (11, iP 12 (f2I (fun x y => x + y))), (12, iW 15 (ptI 33)), (15, iP 16 (fAld 0)), (16, iRI 19 (gtI 33)), (19, iP 21 (fK (.inl 16))), (21, iP 22 (f2I (fun x y => x >>> (y &&& 31)))), (22, iP 23 (fK (.inl 1))), (23, iP 24 (f2I (fun x y => x &&& y))), (24, iB 27 31 (b1 (fun x => decide (x = 0)))), (27, iP 28 (fK (.inl 1))), (28, iP 32 fGo), (31, iP 32 (fK (.inl 0))), (32, iRet rZ)] : List (Nat × AS)), SI X l 120 q.1 q.2 := List.forall_mem_cons.mpr ⟨
  s_aload_n (k := 0) (show decode (cod 120) 0 = .ok (.aload_n 0, 1) by decide +kernel), List.forall_mem_cons.mpr ⟨
  s_aload_n (k := 0) (show decode (cod 120) 1 = .ok (.aload_n 0, 1) by decide +kernel), List.forall_mem_cons.mpr ⟨
  s_getI (show decode (cod 120) 2 = .ok (.getfield 9, 3) by decide +kernel) wd_73 (Or.inl rfl) (Or.inl rfl), List.forall_mem_cons.mpr ⟨
  s_ldc (show decode (cod 120) 5 = .ok (.ldc 145, 2) by decide +kernel) wd_590, List.forall_mem_cons.mpr ⟨
  s_imul (show decode (cod 120) 7 = .ok (.imul, 1) by decide +kernel), List.forall_mem_cons.mpr ⟨
  s_sipush (show decode (cod 120) 8 = .ok (.sipush 12345, 3) by decide +kernel) rfl, List.forall_mem_cons.mpr ⟨
  s_iadd (show decode (cod 120) 11 = .ok (.iadd, 1) by decide +kernel), List.forall_mem_cons.mpr ⟨
  s_putI (show decode (cod 120) 12 = .ok (.putfield 9, 3) by decide +kernel) wd_73 (Or.inl rfl) (Or.inl rfl) rfl, List.forall_mem_cons.mpr ⟨
  s_aload_n (k := 0) (show decode (cod 120) 15 = .ok (.aload_n 0, 1) by decide +kernel), List.forall_mem_cons.mpr ⟨
  s_getI (show decode (cod 120) 16 = .ok (.getfield 9, 3) by decide +kernel) wd_73 (Or.inl rfl) (Or.inl rfl), List.forall_mem_cons.mpr ⟨
  s_bipush (show decode (cod 120) 19 = .ok (.bipush 16, 2) by decide +kernel) rfl, List.forall_mem_cons.mpr ⟨
  s_ishr (show decode (cod 120) 21 = .ok (.ishr, 1) by decide +kernel), List.forall_mem_cons.mpr ⟨
  s_iconst (show decode (cod 120) 22 = .ok (.iconst 1, 1) by decide +kernel) rfl, List.forall_mem_cons.mpr ⟨
  s_iand (show decode (cod 120) 23 = .ok (.iand, 1) by decide +kernel), List.forall_mem_cons.mpr ⟨
  s_ifeq (show decode (cod 120) 24 = .ok (.ifCond .eq 7, 3) by decide +kernel) (by decide), List.forall_mem_cons.mpr ⟨
  s_iconst (show decode (cod 120) 27 = .ok (.iconst 1, 1) by decide +kernel) rfl, List.forall_mem_cons.mpr ⟨
  s_goto (show decode (cod 120) 28 = .ok (.goto 4, 3) by decide +kernel) (by decide), List.forall_mem_cons.mpr ⟨
  s_iconst (show decode (cod 120) 31 = .ok (.iconst 0, 1) by decide +kernel) rfl, List.forall_mem_cons.mpr ⟨
  s_ret (show decode (cod 120) 32 = .ok (.ireturn, 1) by decide +kernel) rZ_ok (fun _ => rZ_b), fun _ h => by cases h⟩⟩⟩⟩⟩⟩⟩⟩⟩⟩⟩⟩⟩⟩⟩⟩⟩⟩⟩
set_option maxRecDepth 100000 in
theorem si120 (X : CX) (l : Launch) : ∀ q ∈ pt120, SI X l 120 q.1 q.2 :=  si120_0 X l
set_option maxRecDepth 100000 in
set_option maxHeartbeats 4000000 in
theorem si121_0 (X : CX) (l : Launch) : ∀ q ∈ ([(0, iP 1 (fAld 0)), (1, iP 2 fDup), (2, iRI 5 (gtI 39)), (5, iP 6 (fK (.inl 1))), (6, iP 7 (f2I (fun x y => x + y))), (7, iW 10 (ptI 39)), (10, iP 11 (fAld 3)), (11, iRI 14 (qInst [3] [1, 2, 4, 10])), (14, iB 17 33 (b1 (fun x => decide (x = 0)))), (17, iP 18 (fAld 3)), (18, iRR 21 (qCast [3])), (21, iP 23 (fAst 4)), (23, iP 24 (fAld 0)), (24, iP 25 (fAld 1)), (25, iP 27 (fAld 4)), (27, iCK 30 8 113 5 3 0), (30, iP 99 fGo), (33, iP 34 (fAld 3)), (34, iRI 37 (qInst [2] [1, 3, 4, 10])), (37, iB 40 66 (b1 (fun x => decide (x = 0)))), (40, iP 41 (fAld 3)), (41, iRR 44 (qCast [2])), (44, iP 46 (fAst 5)), (46, iP 47 (fAld 0)), (47, iCK 50 8 119 1 1 1), (50, iB 53 66 (b1 (fun x => decide (x = 0)))), (53, iP 54 (fAld 0)), (54, iP 56 (fAld 5)), (56, iP 57 (fAld 2)), (57, iRI 60 (gtI 1)), (60, iCK 63 8 122 4 3 0), (63, iP 99 fGo), (66, iP 67 (fAld 3)), (67, iRI 70 (qInst [2] [1, 3, 4, 10])), (70, iB 73 99 (b1 (fun x => decide (x = 0)))), (73, iP 74 (fAld 3)), (74, iRR 77 (qCast [2])), (77, iP 79 (fAst 6)), (79, iP 80 (fAld 2)), (80, iRI 83 (gtI 1))] : List (Nat × AS)), SI X l 121 q.1 q.2 := List.forall_mem_cons.mpr ⟨
  s_aload_n (k := 0) (show decode (cod 121) 0 = .ok (.aload_n 0, 1) by decide +kernel), List.forall_mem_cons.mpr ⟨
  s_dup (show decode (cod 121) 1 = .ok (.dup, 1) by decide +kernel), List.forall_mem_cons.mpr ⟨
  s_getI (show decode (cod 121) 2 = .ok (.getfield 32, 3) by decide +kernel) wd_79 (Or.inl rfl) (Or.inl rfl), List.forall_mem_cons.mpr ⟨
  s_iconst (show decode (cod 121) 5 = .ok (.iconst 1, 1) by decide +kernel) rfl, List.forall_mem_cons.mpr ⟨
  s_iadd (show decode (cod 121) 6 = .ok (.iadd, 1) by decide +kernel), List.forall_mem_cons.mpr ⟨
  s_putI (show decode (cod 121) 7 = .ok (.putfield 32, 3) by decide +kernel) wd_79 (Or.inl rfl) (Or.inl rfl) rfl, List.forall_mem_cons.mpr ⟨
  s_aload_n (k := 3) (show decode (cod 121) 10 = .ok (.aload_n 3, 1) by decide +kernel), List.forall_mem_cons.mpr ⟨
  s_inst (show decode (cod 121) 11 = .ok (.instanceof 62, 3) by decide +kernel) wd_532 (List.forall_mem_cons.mpr ⟨⟨"StepsAhead$Loop", ⟨2, _, _, rfl, by decide, rfl⟩, Or.inl rfl⟩, fun _ h => by cases h⟩) (List.forall_mem_cons.mpr ⟨⟨"StepsAhead$Call", ⟨0, _, _, rfl, by decide, rfl⟩, Or.inl (by decide)⟩, List.forall_mem_cons.mpr ⟨⟨"StepsAhead$Either", ⟨1, _, _, rfl, by decide, rfl⟩, Or.inl (by decide)⟩, List.forall_mem_cons.mpr ⟨⟨"StepsAhead$Op", ⟨3, _, _, rfl, by decide, rfl⟩, Or.inl (by decide)⟩, List.forall_mem_cons.mpr ⟨⟨"StepsAhead$Work", ⟨9, _, _, rfl, by decide, rfl⟩, Or.inl (by decide)⟩, fun _ h => by cases h⟩⟩⟩⟩), List.forall_mem_cons.mpr ⟨
  s_ifeq (show decode (cod 121) 14 = .ok (.ifCond .eq 19, 3) by decide +kernel) (by decide), List.forall_mem_cons.mpr ⟨
  s_aload_n (k := 3) (show decode (cod 121) 17 = .ok (.aload_n 3, 1) by decide +kernel), List.forall_mem_cons.mpr ⟨
  s_cast (show decode (cod 121) 18 = .ok (.checkcast 62, 3) by decide +kernel) wd_532 (List.forall_mem_cons.mpr ⟨⟨"StepsAhead$Loop", ⟨2, _, _, rfl, by decide, rfl⟩, Or.inl rfl⟩, fun _ h => by cases h⟩), List.forall_mem_cons.mpr ⟨
  s_astore (k := 4) (show decode (cod 121) 21 = .ok (.astore 4, 2) by decide +kernel), List.forall_mem_cons.mpr ⟨
  s_aload_n (k := 0) (show decode (cod 121) 23 = .ok (.aload_n 0, 1) by decide +kernel), List.forall_mem_cons.mpr ⟨
  s_aload_n (k := 1) (show decode (cod 121) 24 = .ok (.aload_n 1, 1) by decide +kernel), List.forall_mem_cons.mpr ⟨
  s_aload (k := 4) (show decode (cod 121) 25 = .ok (.aload 4, 2) by decide +kernel), List.forall_mem_cons.mpr ⟨
  s_invK rfl (rcv_virt (show decode (cod 121) 27 = .ok (.invokevirtual 76, 3) by decide +kernel) cld_121_113 ⟨7, _, _, rfl, by decide, rfl⟩ wd_543 wd_544 wd_545), List.forall_mem_cons.mpr ⟨
  s_goto (show decode (cod 121) 30 = .ok (.goto 69, 3) by decide +kernel) (by decide), List.forall_mem_cons.mpr ⟨
  s_aload_n (k := 3) (show decode (cod 121) 33 = .ok (.aload_n 3, 1) by decide +kernel), List.forall_mem_cons.mpr ⟨
  s_inst (show decode (cod 121) 34 = .ok (.instanceof 86, 3) by decide +kernel) wd_551 (List.forall_mem_cons.mpr ⟨⟨"StepsAhead$Either", ⟨1, _, _, rfl, by decide, rfl⟩, Or.inl rfl⟩, fun _ h => by cases h⟩) (List.forall_mem_cons.mpr ⟨⟨"StepsAhead$Call", ⟨0, _, _, rfl, by decide, rfl⟩, Or.inl (by decide)⟩, List.forall_mem_cons.mpr ⟨⟨"StepsAhead$Loop", ⟨2, _, _, rfl, by decide, rfl⟩, Or.inl (by decide)⟩, List.forall_mem_cons.mpr ⟨⟨"StepsAhead$Op", ⟨3, _, _, rfl, by decide, rfl⟩, Or.inl (by decide)⟩, List.forall_mem_cons.mpr ⟨⟨"StepsAhead$Work", ⟨9, _, _, rfl, by decide, rfl⟩, Or.inl (by decide)⟩, fun _ h => by cases h⟩⟩⟩⟩), List.forall_mem_cons.mpr ⟨
  s_ifeq (show decode (cod 121) 37 = .ok (.ifCond .eq 29, 3) by decide +kernel) (by decide), List.forall_mem_cons.mpr ⟨
  s_aload_n (k := 3) (show decode (cod 121) 40 = .ok (.aload_n 3, 1) by decide +kernel), List.forall_mem_cons.mpr ⟨
  s_cast (show decode (cod 121) 41 = .ok (.checkcast 86, 3) by decide +kernel) wd_551 (List.forall_mem_cons.mpr ⟨⟨"StepsAhead$Either", ⟨1, _, _, rfl, by decide, rfl⟩, Or.inl rfl⟩, fun _ h => by cases h⟩), List.forall_mem_cons.mpr ⟨
  s_astore (k := 5) (show decode (cod 121) 44 = .ok (.astore 5, 2) by decide +kernel), List.forall_mem_cons.mpr ⟨
  s_aload_n (k := 0) (show decode (cod 121) 46 = .ok (.aload_n 0, 1) by decide +kernel), List.forall_mem_cons.mpr ⟨
  s_invK rfl (rcv_virt (show decode (cod 121) 47 = .ok (.invokevirtual 101, 3) by decide +kernel) cld_121_119 ⟨7, _, _, rfl, by decide, rfl⟩ wd_581 wd_582 wd_583), List.forall_mem_cons.mpr ⟨
  s_ifeq (show decode (cod 121) 50 = .ok (.ifCond .eq 16, 3) by decide +kernel) (by decide), List.forall_mem_cons.mpr ⟨
  s_aload_n (k := 0) (show decode (cod 121) 53 = .ok (.aload_n 0, 1) by decide +kernel), List.forall_mem_cons.mpr ⟨
  s_aload (k := 5) (show decode (cod 121) 54 = .ok (.aload 5, 2) by decide +kernel), List.forall_mem_cons.mpr ⟨
  s_aload_n (k := 2) (show decode (cod 121) 56 = .ok (.aload_n 2, 1) by decide +kernel), List.forall_mem_cons.mpr ⟨
  s_getI (show decode (cod 121) 57 = .ok (.getfield 105, 3) by decide +kernel) wd_591 (Or.inl rfl) (Or.inl rfl), List.forall_mem_cons.mpr ⟨
  s_invK rfl (rcv_virt (show decode (cod 121) 60 = .ok (.invokevirtual 108, 3) by decide +kernel) cld_121_122 ⟨7, _, _, rfl, by decide, rfl⟩ wd_593 wd_594 wd_595), List.forall_mem_cons.mpr ⟨
  s_goto (show decode (cod 121) 63 = .ok (.goto 36, 3) by decide +kernel) (by decide), List.forall_mem_cons.mpr ⟨
  s_aload_n (k := 3) (show decode (cod 121) 66 = .ok (.aload_n 3, 1) by decide +kernel), List.forall_mem_cons.mpr ⟨
  s_inst (show decode (cod 121) 67 = .ok (.instanceof 86, 3) by decide +kernel) wd_551 (List.forall_mem_cons.mpr ⟨⟨"StepsAhead$Either", ⟨1, _, _, rfl, by decide, rfl⟩, Or.inl rfl⟩, fun _ h => by cases h⟩) (List.forall_mem_cons.mpr ⟨⟨"StepsAhead$Call", ⟨0, _, _, rfl, by decide, rfl⟩, Or.inl (by decide)⟩, List.forall_mem_cons.mpr ⟨⟨"StepsAhead$Loop", ⟨2, _, _, rfl, by decide, rfl⟩, Or.inl (by decide)⟩, List.forall_mem_cons.mpr ⟨⟨"StepsAhead$Op", ⟨3, _, _, rfl, by decide, rfl⟩, Or.inl (by decide)⟩, List.forall_mem_cons.mpr ⟨⟨"StepsAhead$Work", ⟨9, _, _, rfl, by decide, rfl⟩, Or.inl (by decide)⟩, fun _ h => by cases h⟩⟩⟩⟩), List.forall_mem_cons.mpr ⟨
  s_ifeq (show decode (cod 121) 70 = .ok (.ifCond .eq 29, 3) by decide +kernel) (by decide), List.forall_mem_cons.mpr ⟨
  s_aload_n (k := 3) (show decode (cod 121) 73 = .ok (.aload_n 3, 1) by decide +kernel), List.forall_mem_cons.mpr ⟨
  s_cast (show decode (cod 121) 74 = .ok (.checkcast 86, 3) by decide +kernel) wd_551 (List.forall_mem_cons.mpr ⟨⟨"StepsAhead$Either", ⟨1, _, _, rfl, by decide, rfl⟩, Or.inl rfl⟩, fun _ h => by cases h⟩), List.forall_mem_cons.mpr ⟨
  s_astore (k := 6) (show decode (cod 121) 77 = .ok (.astore 6, 2) by decide +kernel), List.forall_mem_cons.mpr ⟨
  s_aload_n (k := 2) (show decode (cod 121) 79 = .ok (.aload_n 2, 1) by decide +kernel), List.forall_mem_cons.mpr ⟨
  s_getI (show decode (cod 121) 80 = .ok (.getfield 105, 3) by decide +kernel) wd_591 (Or.inl rfl) (Or.inl rfl), fun _ h => by cases h⟩⟩⟩⟩⟩⟩⟩⟩⟩⟩⟩⟩⟩⟩⟩⟩⟩⟩⟩⟩⟩⟩⟩⟩⟩⟩⟩⟩⟩⟩⟩⟩⟩⟩⟩⟩⟩⟩⟩⟩
set_option maxRecDepth 100000 in
set_option maxHeartbeats 4000000 in
theorem si121_1 (X : CX) (l : Launch) : ∀ q ∈ ([(83, iP 85 (fK (.inl 7))), (85, iB 88 99 (b2 (fun x y => decide (x ≠ y)))), (88, iP 89 (fAld 0)), (89, iP 91 (fAld 6)), (91, iRI 94 (gtI 8)), (94, iP 95 (fK (.inl 1))), (95, iP 96 (f2I (fun x y => x + y))), (96, iW 99 (ptI 39)), (99, iRet rV)] : List (Nat × AS)), SI X l 121 q.1 q.2 := List.forall_mem_cons.mpr ⟨
  s_bipush (show decode (cod 121) 83 = .ok (.bipush 7, 2) by decide +kernel) rfl, List.forall_mem_cons.mpr ⟨
  s_icmpne (show decode (cod 121) 85 = .ok (.if_icmp .ne 14, 3) by decide +kernel) (by decide), List.forall_mem_cons.mpr ⟨
  s_aload_n (k := 0) (show decode (cod 121) 88 = .ok (.aload_n 0, 1) by decide +kernel), List.forall_mem_cons.mpr ⟨
  s_aload (k := 6) (show decode (cod 121) 89 = .ok (.aload 6, 2) by decide +kernel), List.forall_mem_cons.mpr ⟨
  s_getI (show decode (cod 121) 91 = .ok (.getfield 112, 3) by decide +kernel) wd_596 (Or.inl rfl) (Or.inl rfl), List.forall_mem_cons.mpr ⟨
  s_iconst (show decode (cod 121) 94 = .ok (.iconst 1, 1) by decide +kernel) rfl, List.forall_mem_cons.mpr ⟨
  s_iadd (show decode (cod 121) 95 = .ok (.iadd, 1) by decide +kernel), List.forall_mem_cons.mpr ⟨
  s_putI (show decode (cod 121) 96 = .ok (.putfield 32, 3) by decide +kernel) wd_79 (Or.inl rfl) (Or.inl rfl) rfl, List.forall_mem_cons.mpr ⟨
  s_ret (show decode (cod 121) 99 = .ok (.return_, 1) by decide +kernel) rV_ok (fun h => by cases h), fun _ h => by cases h⟩⟩⟩⟩⟩⟩⟩⟩⟩
set_option maxRecDepth 100000 in
theorem si121 (X : CX) (l : Launch) : ∀ q ∈ pt121, SI X l 121 q.1 q.2 := (List.forall_mem_append (l₁ := _) (l₂ := _)).mpr ⟨si121_0 X l, si121_1 X l⟩
set_option maxRecDepth 100000 in
set_option maxHeartbeats 4000000 in
theorem si122_0 (X : CX) (l : Launch) : ∀ q ∈ ([(0, iP 1 (fIld 2)), (1, iP 3 (fK (.inl 7))), (3, iB 6 22 (b2 (fun x y => decide (x ≠ y)))), (6, iP 7 (fAld 1)), (7, iP 8 (fAld 0)), (8, iRI 11 (gtI 35)), (11, iW 14 (ptI 10)), (14, iP 15 (fAld 0)), (15, iP 16 (fK (.inl 0))), (16, iW 19 (ptI 35)), (19, iP 66 fGo), (22, iP 23 (fAld 0)), (23, iRI 26 (gtI 34)), (26, iP 27 (fK (.inl 3))), (27, iB 30 44 (b2 (fun x y => decide (x ≠ y)))), (30, iP 31 (fAld 1)), (31, iRI 34 (gtI 10)), (34, iP 35 (fAld 0)), (35, iRI 38 (gtI 35)), (38, iP 41 (fM2 (fun x y => if x < y then y else x))), (41, iP 55 fGo), (44, iP 45 (fAld 1)), (45, iRI 48 (gtI 10)), (48, iP 49 (fAld 0)), (49, iRI 52 (gtI 35)), (52, iP 55 (fM2 (fun x y => if y < x then y else x))), (55, iP 56 (fIst 3)), (56, iP 57 (fAld 0)), (57, iP 58 (fAld 1)), (58, iRI 61 (gtI 9)), (61, iP 62 (fIld 3)), (62, iP 63 (f2I (fun x y => x + y))), (63, iW 66 (ptI 35)), (66, iRet rV)] : List (Nat × AS)), SI X l 122 q.1 q.2 := List.forall_mem_cons.mpr ⟨
  s_iload_n (k := 2) (show decode (cod 122) 0 = .ok (.iload_n 2, 1) by decide +kernel), List.forall_mem_cons.mpr ⟨
  s_bipush (show decode (cod 122) 1 = .ok (.bipush 7, 2) by decide +kernel) rfl, List.forall_mem_cons.mpr ⟨
  s_icmpne (show decode (cod 122) 3 = .ok (.if_icmp .ne 19, 3) by decide +kernel) (by decide), List.forall_mem_cons.mpr ⟨
  s_aload_n (k := 1) (show decode (cod 122) 6 = .ok (.aload_n 1, 1) by decide +kernel), List.forall_mem_cons.mpr ⟨
  s_aload_n (k := 0) (show decode (cod 122) 7 = .ok (.aload_n 0, 1) by decide +kernel), List.forall_mem_cons.mpr ⟨
  s_getI (show decode (cod 122) 8 = .ok (.getfield 18, 3) by decide +kernel) wd_75 (Or.inl rfl) (Or.inl rfl), List.forall_mem_cons.mpr ⟨
  s_putI (show decode (cod 122) 11 = .ok (.putfield 146, 3) by decide +kernel) wd_597 (Or.inl rfl) (Or.inl rfl) rfl, List.forall_mem_cons.mpr ⟨
  s_aload_n (k := 0) (show decode (cod 122) 14 = .ok (.aload_n 0, 1) by decide +kernel), List.forall_mem_cons.mpr ⟨
  s_iconst (show decode (cod 122) 15 = .ok (.iconst 0, 1) by decide +kernel) rfl, List.forall_mem_cons.mpr ⟨
  s_putI (show decode (cod 122) 16 = .ok (.putfield 18, 3) by decide +kernel) wd_75 (Or.inl rfl) (Or.inl rfl) rfl, List.forall_mem_cons.mpr ⟨
  s_goto (show decode (cod 122) 19 = .ok (.goto 47, 3) by decide +kernel) (by decide), List.forall_mem_cons.mpr ⟨
  s_aload_n (k := 0) (show decode (cod 122) 22 = .ok (.aload_n 0, 1) by decide +kernel), List.forall_mem_cons.mpr ⟨
  s_getI (show decode (cod 122) 23 = .ok (.getfield 15, 3) by decide +kernel) wd_74 (Or.inl rfl) (Or.inl rfl), List.forall_mem_cons.mpr ⟨
  s_iconst (show decode (cod 122) 26 = .ok (.iconst 3, 1) by decide +kernel) rfl, List.forall_mem_cons.mpr ⟨
  s_icmpne (show decode (cod 122) 27 = .ok (.if_icmp .ne 17, 3) by decide +kernel) (by decide), List.forall_mem_cons.mpr ⟨
  s_aload_n (k := 1) (show decode (cod 122) 30 = .ok (.aload_n 1, 1) by decide +kernel), List.forall_mem_cons.mpr ⟨
  s_getI (show decode (cod 122) 31 = .ok (.getfield 146, 3) by decide +kernel) wd_597 (Or.inl rfl) (Or.inl rfl), List.forall_mem_cons.mpr ⟨
  s_aload_n (k := 0) (show decode (cod 122) 34 = .ok (.aload_n 0, 1) by decide +kernel), List.forall_mem_cons.mpr ⟨
  s_getI (show decode (cod 122) 35 = .ok (.getfield 18, 3) by decide +kernel) wd_75 (Or.inl rfl) (Or.inl rfl), List.forall_mem_cons.mpr ⟨
  s_mmax (show decode (cod 122) 38 = .ok (.invokestatic 149, 3) by decide +kernel) wd_598 wd_431 wd_432 wd_433 (by decide), List.forall_mem_cons.mpr ⟨
  s_goto (show decode (cod 122) 41 = .ok (.goto 14, 3) by decide +kernel) (by decide), List.forall_mem_cons.mpr ⟨
  s_aload_n (k := 1) (show decode (cod 122) 44 = .ok (.aload_n 1, 1) by decide +kernel), List.forall_mem_cons.mpr ⟨
  s_getI (show decode (cod 122) 45 = .ok (.getfield 146, 3) by decide +kernel) wd_597 (Or.inl rfl) (Or.inl rfl), List.forall_mem_cons.mpr ⟨
  s_aload_n (k := 0) (show decode (cod 122) 48 = .ok (.aload_n 0, 1) by decide +kernel), List.forall_mem_cons.mpr ⟨
  s_getI (show decode (cod 122) 49 = .ok (.getfield 18, 3) by decide +kernel) wd_75 (Or.inl rfl) (Or.inl rfl), List.forall_mem_cons.mpr ⟨
  s_mmin (show decode (cod 122) 52 = .ok (.invokestatic 155, 3) by decide +kernel) wd_599 wd_435 wd_432 wd_436 (by decide), List.forall_mem_cons.mpr ⟨
  s_istore_n (k := 3) (show decode (cod 122) 55 = .ok (.istore_n 3, 1) by decide +kernel), List.forall_mem_cons.mpr ⟨
  s_aload_n (k := 0) (show decode (cod 122) 56 = .ok (.aload_n 0, 1) by decide +kernel), List.forall_mem_cons.mpr ⟨
  s_aload_n (k := 1) (show decode (cod 122) 57 = .ok (.aload_n 1, 1) by decide +kernel), List.forall_mem_cons.mpr ⟨
  s_getI (show decode (cod 122) 58 = .ok (.getfield 136, 3) by decide +kernel) wd_584 (Or.inl rfl) (Or.inl rfl), List.forall_mem_cons.mpr ⟨
  s_iload_n (k := 3) (show decode (cod 122) 61 = .ok (.iload_n 3, 1) by decide +kernel), List.forall_mem_cons.mpr ⟨
  s_iadd (show decode (cod 122) 62 = .ok (.iadd, 1) by decide +kernel), List.forall_mem_cons.mpr ⟨
  s_putI (show decode (cod 122) 63 = .ok (.putfield 18, 3) by decide +kernel) wd_75 (Or.inl rfl) (Or.inl rfl) rfl, List.forall_mem_cons.mpr ⟨
  s_ret (show decode (cod 122) 66 = .ok (.return_, 1) by decide +kernel) rV_ok (fun h => by cases h), fun _ h => by cases h⟩⟩⟩⟩⟩⟩⟩⟩⟩⟩⟩⟩⟩⟩⟩⟩⟩⟩⟩⟩⟩⟩⟩⟩⟩⟩⟩⟩⟩⟩⟩⟩⟩⟩
set_option maxRecDepth 100000 in
theorem si122 (X : CX) (l : Launch) : ∀ q ∈ pt122, SI X l 122 q.1 q.2 :=  si122_0 X l
set_option maxRecDepth 100000 in
set_option maxHeartbeats 4000000 in
theorem si123_0 (X : CX) (l : Launch) : ∀ q ∈ ([(0, iP 1 (fAld 0)), (1, iRR 4 (gtR 49)), (4, iP 5 (fIld 1)), (5, iW 8 (ptI 33)), (8, iP 9 (fK (.inl 1))), (9, iRet rI)] : List (Nat × AS)), SI X l 123 q.1 q.2 := List.forall_mem_cons.mpr ⟨
  s_aload_n (k := 0) (show decode (cod 123) 0 = .ok (.aload_n 0, 1) by decide +kernel), List.forall_mem_cons.mpr ⟨
  s_getR (show decode (cod 123) 1 = .ok (.getfield 43, 3) by decide +kernel) wd_26 (Or.inl rfl) rfl, List.forall_mem_cons.mpr ⟨
  s_iload_n (k := 1) (show decode (cod 123) 4 = .ok (.iload_n 1, 1) by decide +kernel), List.forall_mem_cons.mpr ⟨
  s_putI (show decode (cod 123) 5 = .ok (.putfield 206, 3) by decide +kernel) wd_600 (Or.inl rfl) (Or.inl rfl) rfl, List.forall_mem_cons.mpr ⟨
  s_iconst (show decode (cod 123) 8 = .ok (.iconst 1, 1) by decide +kernel) rfl, List.forall_mem_cons.mpr ⟨
  s_ret (show decode (cod 123) 9 = .ok (.ireturn, 1) by decide +kernel) rI_ok (fun h => by cases h), fun _ h => by cases h⟩⟩⟩⟩⟩⟩
set_option maxRecDepth 100000 in
theorem si123 (X : CX) (l : Launch) : ∀ q ∈ pt123, SI X l 123 q.1 q.2 :=  si123_0 X l
set_option maxRecDepth 100000 in
set_option maxHeartbeats 4000000 in
theorem si124_0 (X : CX) (l : Launch) : ∀ q ∈ ([(0, iP 1 (fAld 0)), (1, iP 2 (fIld 1)), (2, iCK 5 11 15 2 2 3), (5, iP 7 (fAst 5)), (7, iP 9 (fAld 5)), (9, iB 12 31 bN), (12, iP 13 (fIld 2)), (13, iC 16 102 1 1 1), (16, iB 19 31 (b1 (fun x => decide (x = 0)))), (19, iP 20 (fIld 3)), (20, iC 23 102 1 1 1), (23, iB 26 31 (b1 (fun x => decide (x = 0)))), (26, iP 28 (fIld 4)), (28, iB 31 34 (b1 (fun x => decide (0 ≤ x)))), (31, iP 33 (fK (.inl (-1000001)))), (33, iRet rI), (34, iP 35 (fAld 0)), (35, iP 37 (fAld 5)), (37, iP 38 (fK (.inl 1))), (38, iCK 41 11 67 6 3 1), (41, iP 43 (fIst 6)), (43, iP 45 (fIld 6)), (45, iB 48 51 (b1 (fun x => decide (0 ≤ x)))), (48, iP 50 (fIld 6)), (50, iRet rI), (51, iP 53 (fAld 5)), (53, iP 54 (fK (.inl 1))), (54, iP 55 (fIld 2)), (55, iP 56 (fIld 3)), (56, iCK 59 7 103 10 4 2), (59, iP 61 (fIld 4)), (61, iP 62 fI2l), (62, iP 63 fLcmp), (63, iB 66 69 (b1 (fun x => decide (x ≤ 0)))), (66, iP 68 (fK (.inl (-1000000)))), (68, iRet rI), (69, iP 70 (fAld 0)), (70, iRR 73 (gtR 49)), (73, iP 75 (fAld 5)), (75, iP 76 (fIld 2))] : List (Nat × AS)), SI X l 124 q.1 q.2 := List.forall_mem_cons.mpr ⟨
  s_aload_n (k := 0) (show decode (cod 124) 0 = .ok (.aload_n 0, 1) by decide +kernel), List.forall_mem_cons.mpr ⟨
  s_iload_n (k := 1) (show decode (cod 124) 1 = .ok (.iload_n 1, 1) by decide +kernel), List.forall_mem_cons.mpr ⟨
  s_invK rfl (rcv_virt (show decode (cod 124) 2 = .ok (.invokevirtual 56, 3) by decide +kernel) cld_124_15 ⟨10, _, _, rfl, by decide, rfl⟩ wd_102 wd_103 wd_104), List.forall_mem_cons.mpr ⟨
  s_astore (k := 5) (show decode (cod 124) 5 = .ok (.astore 5, 2) by decide +kernel), List.forall_mem_cons.mpr ⟨
  s_aload (k := 5) (show decode (cod 124) 7 = .ok (.aload 5, 2) by decide +kernel), List.forall_mem_cons.mpr ⟨
  s_ifnull (show decode (cod 124) 9 = .ok (.ifnull 22, 3) by decide +kernel) (by decide), List.forall_mem_cons.mpr ⟨
  s_iload_n (k := 2) (show decode (cod 124) 12 = .ok (.iload_n 2, 1) by decide +kernel), List.forall_mem_cons.mpr ⟨
  s_invS (show decode (cod 124) 13 = .ok (.invokestatic 180, 3) by decide +kernel) rfl cld_124_102 wd_497 wd_498, List.forall_mem_cons.mpr ⟨
  s_ifeq (show decode (cod 124) 16 = .ok (.ifCond .eq 15, 3) by decide +kernel) (by decide), List.forall_mem_cons.mpr ⟨
  s_iload_n (k := 3) (show decode (cod 124) 19 = .ok (.iload_n 3, 1) by decide +kernel), List.forall_mem_cons.mpr ⟨
  s_invS (show decode (cod 124) 20 = .ok (.invokestatic 180, 3) by decide +kernel) rfl cld_124_102 wd_497 wd_498, List.forall_mem_cons.mpr ⟨
  s_ifeq (show decode (cod 124) 23 = .ok (.ifCond .eq 8, 3) by decide +kernel) (by decide), List.forall_mem_cons.mpr ⟨
  s_iload (k := 4) (show decode (cod 124) 26 = .ok (.iload 4, 2) by decide +kernel), List.forall_mem_cons.mpr ⟨
  s_ifge (show decode (cod 124) 28 = .ok (.ifCond .ge 6, 3) by decide +kernel) (by decide), List.forall_mem_cons.mpr ⟨
  s_ldc (show decode (cod 124) 31 = .ok (.ldc 55, 2) by decide +kernel) wd_100, List.forall_mem_cons.mpr ⟨
  s_ret (show decode (cod 124) 33 = .ok (.ireturn, 1) by decide +kernel) rI_ok (fun h => by cases h), List.forall_mem_cons.mpr ⟨
  s_aload_n (k := 0) (show decode (cod 124) 34 = .ok (.aload_n 0, 1) by decide +kernel), List.forall_mem_cons.mpr ⟨
  s_aload (k := 5) (show decode (cod 124) 35 = .ok (.aload 5, 2) by decide +kernel), List.forall_mem_cons.mpr ⟨
  s_iconst (show decode (cod 124) 37 = .ok (.iconst 1, 1) by decide +kernel) rfl, List.forall_mem_cons.mpr ⟨
  s_invK rfl (rcv_virt (show decode (cod 124) 38 = .ok (.invokevirtual 157, 3) by decide +kernel) cld_124_67 ⟨10, _, _, rfl, by decide, rfl⟩ wd_341 wd_342 wd_343), List.forall_mem_cons.mpr ⟨
  s_istore (k := 6) (show decode (cod 124) 41 = .ok (.istore 6, 2) by decide +kernel), List.forall_mem_cons.mpr ⟨
  s_iload (k := 6) (show decode (cod 124) 43 = .ok (.iload 6, 2) by decide +kernel), List.forall_mem_cons.mpr ⟨
  s_ifge (show decode (cod 124) 45 = .ok (.ifCond .ge 6, 3) by decide +kernel) (by decide), List.forall_mem_cons.mpr ⟨
  s_iload (k := 6) (show decode (cod 124) 48 = .ok (.iload 6, 2) by decide +kernel), List.forall_mem_cons.mpr ⟨
  s_ret (show decode (cod 124) 50 = .ok (.ireturn, 1) by decide +kernel) rI_ok (fun h => by cases h), List.forall_mem_cons.mpr ⟨
  s_aload (k := 5) (show decode (cod 124) 51 = .ok (.aload 5, 2) by decide +kernel), List.forall_mem_cons.mpr ⟨
  s_iconst (show decode (cod 124) 53 = .ok (.iconst 1, 1) by decide +kernel) rfl, List.forall_mem_cons.mpr ⟨
  s_iload_n (k := 2) (show decode (cod 124) 54 = .ok (.iload_n 2, 1) by decide +kernel), List.forall_mem_cons.mpr ⟨
  s_iload_n (k := 3) (show decode (cod 124) 55 = .ok (.iload_n 3, 1) by decide +kernel), List.forall_mem_cons.mpr ⟨
  s_invK rfl (rcv_virt (show decode (cod 124) 56 = .ok (.invokevirtual 183, 3) by decide +kernel) cld_124_103 ⟨6, _, _, rfl, by decide, rfl⟩ wd_500 wd_501 wd_502), List.forall_mem_cons.mpr ⟨
  s_iload (k := 4) (show decode (cod 124) 59 = .ok (.iload 4, 2) by decide +kernel), List.forall_mem_cons.mpr ⟨
  s_i2l (show decode (cod 124) 61 = .ok (.i2l, 1) by decide +kernel), List.forall_mem_cons.mpr ⟨
  s_lcmp (show decode (cod 124) 62 = .ok (.lcmp, 1) by decide +kernel), List.forall_mem_cons.mpr ⟨
  s_ifle (show decode (cod 124) 63 = .ok (.ifCond .le 6, 3) by decide +kernel) (by decide), List.forall_mem_cons.mpr ⟨
  s_ldc (show decode (cod 124) 66 = .ok (.ldc 209, 2) by decide +kernel) wd_601, List.forall_mem_cons.mpr ⟨
  s_ret (show decode (cod 124) 68 = .ok (.ireturn, 1) by decide +kernel) rI_ok (fun h => by cases h), List.forall_mem_cons.mpr ⟨
  s_aload_n (k := 0) (show decode (cod 124) 69 = .ok (.aload_n 0, 1) by decide +kernel), List.forall_mem_cons.mpr ⟨
  s_getR (show decode (cod 124) 70 = .ok (.getfield 43, 3) by decide +kernel) wd_26 (Or.inl rfl) rfl, List.forall_mem_cons.mpr ⟨
  s_aload (k := 5) (show decode (cod 124) 73 = .ok (.aload 5, 2) by decide +kernel), List.forall_mem_cons.mpr ⟨
  s_iload_n (k := 2) (show decode (cod 124) 75 = .ok (.iload_n 2, 1) by decide +kernel), fun _ h => by cases h⟩⟩⟩⟩⟩⟩⟩⟩⟩⟩⟩⟩⟩⟩⟩⟩⟩⟩⟩⟩⟩⟩⟩⟩⟩⟩⟩⟩⟩⟩⟩⟩⟩⟩⟩⟩⟩⟩⟩⟩
set_option maxRecDepth 100000 in
set_option maxHeartbeats 4000000 in
theorem si124_1 (X : CX) (l : Launch) : ∀ q ∈ ([(76, iP 77 (fIld 3)), (77, iP 78 (fK (.inl 2))), (78, iCK 81 8 108 6 5 1), (81, iRet rI)] : List (Nat × AS)), SI X l 124 q.1 q.2 := List.forall_mem_cons.mpr ⟨
  s_iload_n (k := 3) (show decode (cod 124) 76 = .ok (.iload_n 3, 1) by decide +kernel), List.forall_mem_cons.mpr ⟨
  s_iconst (show decode (cod 124) 77 = .ok (.iconst 2, 1) by decide +kernel) rfl, List.forall_mem_cons.mpr ⟨
  s_invK rfl (rcv_virt (show decode (cod 124) 78 = .ok (.invokevirtual 202, 3) by decide +kernel) cld_124_108 ⟨7, _, _, rfl, by decide, rfl⟩ wd_513 wd_514 wd_515), List.forall_mem_cons.mpr ⟨
  s_ret (show decode (cod 124) 81 = .ok (.ireturn, 1) by decide +kernel) rI_ok (fun h => by cases h), fun _ h => by cases h⟩⟩⟩⟩
set_option maxRecDepth 100000 in
theorem si124 (X : CX) (l : Launch) : ∀ q ∈ pt124, SI X l 124 q.1 q.2 := (List.forall_mem_append (l₁ := _) (l₂ := _)).mpr ⟨si124_0 X l, si124_1 X l⟩
set_option maxRecDepth 100000 in
set_option maxHeartbeats 4000000 in
theorem si125_0 (X : CX) (l : Launch) : ∀ q ∈ ([(0, iP 1 (fIld 1)), (1, iB 4 9 (b1 (fun x => decide (x < 0)))), (4, iP 5 (fIld 1)), (5, iP 6 (fK (.inl 4))), (6, iB 9 12 (b2 (fun x y => decide (x ≤ y)))), (9, iP 11 (fK (.inl (-1000001)))), (11, iRet rI), (12, iP 13 (fK (.inl 0))), (13, iP 14 (fIst 2)), (14, iP 15 (fK (.inl 0))), (15, iP 16 (fIst 3)), (16, iP 17 (fIld 3)), (17, iP 18 (fAld 0)), (18, iRI 21 (gtI 44)), (21, iB 24 169 (b2 (fun x y => decide (y ≤ x)))), (24, iP 25 (fIld 3)), (25, iP 27 (fK (.inl 8))), (27, iB 30 169 (b2 (fun x y => decide (y ≤ x)))), (30, iP 31 (fAld 0)), (31, iRR 34 (gtR 43)), (34, iP 35 (fIld 3)), (35, iRR 36 qAR), (36, iP 38 (fAst 4)), (38, iP 39 (fIld 1)), (39, iSw 155 0 [68, 74, 85, 104]), (68, iP 71 (fInc 2 1)), (71, iP 163 fGo), (74, iP 75 (fIld 2)), (75, iP 77 (fAld 4)), (77, iRI 80 (gtI 23)), (80, iP 81 (f2I (fun x y => x + y))), (81, iP 82 (fIst 2)), (82, iP 163 fGo), (85, iP 86 (fIld 2)), (86, iP 88 (fAld 4)), (88, iCK 91 7 70 1 1 1), (91, iB 94 98 (b1 (fun x => decide (x = 0)))), (94, iP 95 (fK (.inl 1))), (95, iP 99 fGo), (98, iP 99 (fK (.inl 0)))] : List (Nat × AS)), SI X l 125 q.1 q.2 := List.forall_mem_cons.mpr ⟨
  s_iload_n (k := 1) (show decode (cod 125) 0 = .ok (.iload_n 1, 1) by decide +kernel), List.forall_mem_cons.mpr ⟨
  s_iflt (show decode (cod 125) 1 = .ok (.ifCond .lt 8, 3) by decide +kernel) (by decide), List.forall_mem_cons.mpr ⟨
  s_iload_n (k := 1) (show decode (cod 125) 4 = .ok (.iload_n 1, 1) by decide +kernel), List.forall_mem_cons.mpr ⟨
  s_iconst (show decode (cod 125) 5 = .ok (.iconst 4, 1) by decide +kernel) rfl, List.forall_mem_cons.mpr ⟨
  s_icmple (show decode (cod 125) 6 = .ok (.if_icmp .le 6, 3) by decide +kernel) (by decide), List.forall_mem_cons.mpr ⟨
  s_ldc (show decode (cod 125) 9 = .ok (.ldc 55, 2) by decide +kernel) wd_100, List.forall_mem_cons.mpr ⟨
  s_ret (show decode (cod 125) 11 = .ok (.ireturn, 1) by decide +kernel) rI_ok (fun h => by cases h), List.forall_mem_cons.mpr ⟨
  s_iconst (show decode (cod 125) 12 = .ok (.iconst 0, 1) by decide +kernel) rfl, List.forall_mem_cons.mpr ⟨
  s_istore_n (k := 2) (show decode (cod 125) 13 = .ok (.istore_n 2, 1) by decide +kernel), List.forall_mem_cons.mpr ⟨
  s_iconst (show decode (cod 125) 14 = .ok (.iconst 0, 1) by decide +kernel) rfl, List.forall_mem_cons.mpr ⟨
  s_istore_n (k := 3) (show decode (cod 125) 15 = .ok (.istore_n 3, 1) by decide +kernel), List.forall_mem_cons.mpr ⟨
  s_iload_n (k := 3) (show decode (cod 125) 16 = .ok (.iload_n 3, 1) by decide +kernel), List.forall_mem_cons.mpr ⟨
  s_aload_n (k := 0) (show decode (cod 125) 17 = .ok (.aload_n 0, 1) by decide +kernel), List.forall_mem_cons.mpr ⟨
  s_getI (show decode (cod 125) 18 = .ok (.getfield 15, 3) by decide +kernel) wd_5 (Or.inl rfl) (Or.inl rfl), List.forall_mem_cons.mpr ⟨
  s_icmpge (show decode (cod 125) 21 = .ok (.if_icmp .ge 148, 3) by decide +kernel) (by decide), List.forall_mem_cons.mpr ⟨
  s_iload_n (k := 3) (show decode (cod 125) 24 = .ok (.iload_n 3, 1) by decide +kernel), List.forall_mem_cons.mpr ⟨
  s_bipush (show decode (cod 125) 25 = .ok (.bipush 8, 2) by decide +kernel) rfl, List.forall_mem_cons.mpr ⟨
  s_icmpge (show decode (cod 125) 27 = .ok (.if_icmp .ge 142, 3) by decide +kernel) (by decide), List.forall_mem_cons.mpr ⟨
  s_aload_n (k := 0) (show decode (cod 125) 30 = .ok (.aload_n 0, 1) by decide +kernel), List.forall_mem_cons.mpr ⟨
  s_getR (show decode (cod 125) 31 = .ok (.getfield 11, 3) by decide +kernel) wd_4 (Or.inl rfl) rfl, List.forall_mem_cons.mpr ⟨
  s_iload_n (k := 3) (show decode (cod 125) 34 = .ok (.iload_n 3, 1) by decide +kernel), List.forall_mem_cons.mpr ⟨
  s_aaload (show decode (cod 125) 35 = .ok (.aaload, 1) by decide +kernel), List.forall_mem_cons.mpr ⟨
  s_astore (k := 4) (show decode (cod 125) 36 = .ok (.astore 4, 2) by decide +kernel), List.forall_mem_cons.mpr ⟨
  s_iload_n (k := 1) (show decode (cod 125) 38 = .ok (.iload_n 1, 1) by decide +kernel), List.forall_mem_cons.mpr ⟨
  s_table (show decode (cod 125) 39 = .ok (.tableswitch 116 0 3 #[29, 35, 46, 65], 29) by decide +kernel) (by decide) (by decide) rfl (by decide) (fun j t h => match j, h with | 0, h => ⟨_, rfl, by cases h; rfl⟩ | 1, h => ⟨_, rfl, by cases h; rfl⟩ | 2, h => ⟨_, rfl, by cases h; rfl⟩ | 3, h => ⟨_, rfl, by cases h; rfl⟩ | j + 4, h => by simp at h), List.forall_mem_cons.mpr ⟨
  s_iinc (show decode (cod 125) 68 = .ok (.iinc 2 1, 3) by decide +kernel) rfl, List.forall_mem_cons.mpr ⟨
  s_goto (show decode (cod 125) 71 = .ok (.goto 92, 3) by decide +kernel) (by decide), List.forall_mem_cons.mpr ⟨
  s_iload_n (k := 2) (show decode (cod 125) 74 = .ok (.iload_n 2, 1) by decide +kernel), List.forall_mem_cons.mpr ⟨
  s_aload (k := 4) (show decode (cod 125) 75 = .ok (.aload 4, 2) by decide +kernel), List.forall_mem_cons.mpr ⟨
  s_getI (show decode (cod 125) 77 = .ok (.getfield 66, 3) by decide +kernel) wd_112 (Or.inl rfl) (Or.inl rfl), List.forall_mem_cons.mpr ⟨
  s_iadd (show decode (cod 125) 80 = .ok (.iadd, 1) by decide +kernel), List.forall_mem_cons.mpr ⟨
  s_istore_n (k := 2) (show decode (cod 125) 81 = .ok (.istore_n 2, 1) by decide +kernel), List.forall_mem_cons.mpr ⟨
  s_goto (show decode (cod 125) 82 = .ok (.goto 81, 3) by decide +kernel) (by decide), List.forall_mem_cons.mpr ⟨
  s_iload_n (k := 2) (show decode (cod 125) 85 = .ok (.iload_n 2, 1) by decide +kernel), List.forall_mem_cons.mpr ⟨
  s_aload (k := 4) (show decode (cod 125) 86 = .ok (.aload 4, 2) by decide +kernel), List.forall_mem_cons.mpr ⟨
  s_invK rfl (rcv_virt (show decode (cod 125) 88 = .ok (.invokevirtual 210, 3) by decide +kernel) cld_125_70 ⟨6, _, _, rfl, by decide, rfl⟩ wd_363 wd_364 wd_365), List.forall_mem_cons.mpr ⟨
  s_ifeq (show decode (cod 125) 91 = .ok (.ifCond .eq 7, 3) by decide +kernel) (by decide), List.forall_mem_cons.mpr ⟨
  s_iconst (show decode (cod 125) 94 = .ok (.iconst 1, 1) by decide +kernel) rfl, List.forall_mem_cons.mpr ⟨
  s_goto (show decode (cod 125) 95 = .ok (.goto 4, 3) by decide +kernel) (by decide), List.forall_mem_cons.mpr ⟨
  s_iconst (show decode (cod 125) 98 = .ok (.iconst 0, 1) by decide +kernel) rfl, fun _ h => by cases h⟩⟩⟩⟩⟩⟩⟩⟩⟩⟩⟩⟩⟩⟩⟩⟩⟩⟩⟩⟩⟩⟩⟩⟩⟩⟩⟩⟩⟩⟩⟩⟩⟩⟩⟩⟩⟩⟩⟩⟩
set_option maxRecDepth 100000 in
set_option maxHeartbeats 4000000 in
theorem si125_1 (X : CX) (l : Launch) : ∀ q ∈ ([(99, iP 100 (f2I (fun x y => x + y))), (100, iP 101 (fIst 2)), (101, iP 163 fGo), (104, iP 105 (fAld 0)), (105, iP 107 (fAld 4)), (107, iP 108 (fK (.inl 0))), (108, iCK 111 11 67 6 3 1), (111, iB 114 128 (b1 (fun x => decide (x ≠ 0)))), (114, iP 115 (fAld 0)), (115, iP 117 (fAld 4)), (117, iP 118 (fK (.inl 1))), (118, iCK 121 11 67 6 3 1), (121, iB 124 128 (b1 (fun x => decide (x ≠ 0)))), (124, iP 125 (fK (.inl 1))), (125, iP 129 fGo), (128, iP 129 (fK (.inl 0))), (129, iP 131 (fIst 5)), (131, iP 132 (fIld 2)), (132, iP 134 (fIld 5)), (134, iB 137 149 (b1 (fun x => decide (x = 0)))), (137, iP 139 (fAld 4)), (139, iCK 142 7 106 2 1 1), (142, iB 145 149 (b1 (fun x => decide (x = 0)))), (145, iP 146 (fK (.inl 1))), (146, iP 150 fGo), (149, iP 150 (fK (.inl 0))), (150, iP 151 (f2I (fun x y => x + y))), (151, iP 152 (fIst 2)), (152, iP 163 fGo), (155, iP 156 (fIld 2)), (156, iP 158 (fAld 4)), (158, iCK 161 7 126 3 1 1), (161, iP 162 (f2I (fun x y => x + y))), (162, iP 163 (fIst 2)), (163, iP 166 (fInc 3 1)), (166, iP 16 fGo), (169, iP 170 (fIld 2)), (170, iRet rI)] : List (Nat × AS)), SI X l 125 q.1 q.2 := List.forall_mem_cons.mpr ⟨
  s_iadd (show decode (cod 125) 99 = .ok (.iadd, 1) by decide +kernel), List.forall_mem_cons.mpr ⟨
  s_istore_n (k := 2) (show decode (cod 125) 100 = .ok (.istore_n 2, 1) by decide +kernel), List.forall_mem_cons.mpr ⟨
  s_goto (show decode (cod 125) 101 = .ok (.goto 62, 3) by decide +kernel) (by decide), List.forall_mem_cons.mpr ⟨
  s_aload_n (k := 0) (show decode (cod 125) 104 = .ok (.aload_n 0, 1) by decide +kernel), List.forall_mem_cons.mpr ⟨
  s_aload (k := 4) (show decode (cod 125) 105 = .ok (.aload 4, 2) by decide +kernel), List.forall_mem_cons.mpr ⟨
  s_iconst (show decode (cod 125) 107 = .ok (.iconst 0, 1) by decide +kernel) rfl, List.forall_mem_cons.mpr ⟨
  s_invK rfl (rcv_virt (show decode (cod 125) 108 = .ok (.invokevirtual 157, 3) by decide +kernel) cld_125_67 ⟨10, _, _, rfl, by decide, rfl⟩ wd_341 wd_342 wd_343), List.forall_mem_cons.mpr ⟨
  s_ifne (show decode (cod 125) 111 = .ok (.ifCond .ne 17, 3) by decide +kernel) (by decide), List.forall_mem_cons.mpr ⟨
  s_aload_n (k := 0) (show decode (cod 125) 114 = .ok (.aload_n 0, 1) by decide +kernel), List.forall_mem_cons.mpr ⟨
  s_aload (k := 4) (show decode (cod 125) 115 = .ok (.aload 4, 2) by decide +kernel), List.forall_mem_cons.mpr ⟨
  s_iconst (show decode (cod 125) 117 = .ok (.iconst 1, 1) by decide +kernel) rfl, List.forall_mem_cons.mpr ⟨
  s_invK rfl (rcv_virt (show decode (cod 125) 118 = .ok (.invokevirtual 157, 3) by decide +kernel) cld_125_67 ⟨10, _, _, rfl, by decide, rfl⟩ wd_341 wd_342 wd_343), List.forall_mem_cons.mpr ⟨
  s_ifne (show decode (cod 125) 121 = .ok (.ifCond .ne 7, 3) by decide +kernel) (by decide), List.forall_mem_cons.mpr ⟨
  s_iconst (show decode (cod 125) 124 = .ok (.iconst 1, 1) by decide +kernel) rfl, List.forall_mem_cons.mpr ⟨
  s_goto (show decode (cod 125) 125 = .ok (.goto 4, 3) by decide +kernel) (by decide), List.forall_mem_cons.mpr ⟨
  s_iconst (show decode (cod 125) 128 = .ok (.iconst 0, 1) by decide +kernel) rfl, List.forall_mem_cons.mpr ⟨
  s_istore (k := 5) (show decode (cod 125) 129 = .ok (.istore 5, 2) by decide +kernel), List.forall_mem_cons.mpr ⟨
  s_iload_n (k := 2) (show decode (cod 125) 131 = .ok (.iload_n 2, 1) by decide +kernel), List.forall_mem_cons.mpr ⟨
  s_iload (k := 5) (show decode (cod 125) 132 = .ok (.iload 5, 2) by decide +kernel), List.forall_mem_cons.mpr ⟨
  s_ifeq (show decode (cod 125) 134 = .ok (.ifCond .eq 15, 3) by decide +kernel) (by decide), List.forall_mem_cons.mpr ⟨
  s_aload (k := 4) (show decode (cod 125) 137 = .ok (.aload 4, 2) by decide +kernel), List.forall_mem_cons.mpr ⟨
  s_invK rfl (rcv_virt (show decode (cod 125) 139 = .ok (.invokevirtual 192, 3) by decide +kernel) cld_125_106 ⟨6, _, _, rfl, by decide, rfl⟩ wd_509 wd_510 wd_511), List.forall_mem_cons.mpr ⟨
  s_ifeq (show decode (cod 125) 142 = .ok (.ifCond .eq 7, 3) by decide +kernel) (by decide), List.forall_mem_cons.mpr ⟨
  s_iconst (show decode (cod 125) 145 = .ok (.iconst 1, 1) by decide +kernel) rfl, List.forall_mem_cons.mpr ⟨
  s_goto (show decode (cod 125) 146 = .ok (.goto 4, 3) by decide +kernel) (by decide), List.forall_mem_cons.mpr ⟨
  s_iconst (show decode (cod 125) 149 = .ok (.iconst 0, 1) by decide +kernel) rfl, List.forall_mem_cons.mpr ⟨
  s_iadd (show decode (cod 125) 150 = .ok (.iadd, 1) by decide +kernel), List.forall_mem_cons.mpr ⟨
  s_istore_n (k := 2) (show decode (cod 125) 151 = .ok (.istore_n 2, 1) by decide +kernel), List.forall_mem_cons.mpr ⟨
  s_goto (show decode (cod 125) 152 = .ok (.goto 11, 3) by decide +kernel) (by decide), List.forall_mem_cons.mpr ⟨
  s_iload_n (k := 2) (show decode (cod 125) 155 = .ok (.iload_n 2, 1) by decide +kernel), List.forall_mem_cons.mpr ⟨
  s_aload (k := 4) (show decode (cod 125) 156 = .ok (.aload 4, 2) by decide +kernel), List.forall_mem_cons.mpr ⟨
  s_invK rfl (rcv_virt (show decode (cod 125) 158 = .ok (.invokevirtual 213, 3) by decide +kernel) cld_125_126 ⟨6, _, _, rfl, by decide, rfl⟩ wd_603 wd_604 wd_605), List.forall_mem_cons.mpr ⟨
  s_iadd (show decode (cod 125) 161 = .ok (.iadd, 1) by decide +kernel), List.forall_mem_cons.mpr ⟨
  s_istore_n (k := 2) (show decode (cod 125) 162 = .ok (.istore_n 2, 1) by decide +kernel), List.forall_mem_cons.mpr ⟨
  s_iinc (show decode (cod 125) 163 = .ok (.iinc 3 1, 3) by decide +kernel) rfl, List.forall_mem_cons.mpr ⟨
  s_goto (show decode (cod 125) 166 = .ok (.goto (-150), 3) by decide +kernel) (by decide), List.forall_mem_cons.mpr ⟨
  s_iload_n (k := 2) (show decode (cod 125) 169 = .ok (.iload_n 2, 1) by decide +kernel), List.forall_mem_cons.mpr ⟨
  s_ret (show decode (cod 125) 170 = .ok (.ireturn, 1) by decide +kernel) rI_ok (fun h => by cases h), fun _ h => by cases h⟩⟩⟩⟩⟩⟩⟩⟩⟩⟩⟩⟩⟩⟩⟩⟩⟩⟩⟩⟩⟩⟩⟩⟩⟩⟩⟩⟩⟩⟩⟩⟩⟩⟩⟩⟩⟩⟩
set_option maxRecDepth 100000 in
theorem si125 (X : CX) (l : Launch) : ∀ q ∈ pt125, SI X l 125 q.1 q.2 := (List.forall_mem_append (l₁ := _) (l₂ := _)).mpr ⟨si125_0 X l, si125_1 X l⟩
set_option maxRecDepth 100000 in
set_option maxHeartbeats 4000000 in
theorem si126_0 (X : CX) (l : Launch) : ∀ q ∈ ([(0, iP 1 (fK (.inl 0))), (1, iP 2 (fIst 1)), (2, iP 3 (fK (.inl 0))), (3, iP 4 (fIst 2)), (4, iP 5 (fIld 2)), (5, iP 6 (fAld 0)), (6, iRI 9 (gtI 23)), (9, iB 12 32 (b2 (fun x y => decide (y ≤ x)))), (12, iP 13 (fAld 0)), (13, iP 14 (fIld 2)), (14, iCK 17 7 18 2 2 3), (17, iRI 20 (qInst [1] [2, 3, 4, 10])), (20, iB 23 26 (b1 (fun x => decide (x = 0)))), (23, iP 26 (fInc 1 1)), (26, iP 29 (fInc 2 1)), (29, iP 4 fGo), (32, iP 33 (fIld 1)), (33, iRet rI)] : List (Nat × AS)), SI X l 126 q.1 q.2 := List.forall_mem_cons.mpr ⟨
  s_iconst (show decode (cod 126) 0 = .ok (.iconst 0, 1) by decide +kernel) rfl, List.forall_mem_cons.mpr ⟨
  s_istore_n (k := 1) (show decode (cod 126) 1 = .ok (.istore_n 1, 1) by decide +kernel), List.forall_mem_cons.mpr ⟨
  s_iconst (show decode (cod 126) 2 = .ok (.iconst 0, 1) by decide +kernel) rfl, List.forall_mem_cons.mpr ⟨
  s_istore_n (k := 2) (show decode (cod 126) 3 = .ok (.istore_n 2, 1) by decide +kernel), List.forall_mem_cons.mpr ⟨
  s_iload_n (k := 2) (show decode (cod 126) 4 = .ok (.iload_n 2, 1) by decide +kernel), List.forall_mem_cons.mpr ⟨
  s_aload_n (k := 0) (show decode (cod 126) 5 = .ok (.aload_n 0, 1) by decide +kernel), List.forall_mem_cons.mpr ⟨
  s_getI (show decode (cod 126) 6 = .ok (.getfield 17, 3) by decide +kernel) wd_83 (Or.inl rfl) (Or.inl rfl), List.forall_mem_cons.mpr ⟨
  s_icmpge (show decode (cod 126) 9 = .ok (.if_icmp .ge 23, 3) by decide +kernel) (by decide), List.forall_mem_cons.mpr ⟨
  s_aload_n (k := 0) (show decode (cod 126) 12 = .ok (.aload_n 0, 1) by decide +kernel), List.forall_mem_cons.mpr ⟨
  s_iload_n (k := 2) (show decode (cod 126) 13 = .ok (.iload_n 2, 1) by decide +kernel), List.forall_mem_cons.mpr ⟨
  s_invK rfl (rcv_virt (show decode (cod 126) 14 = .ok (.invokevirtual 56, 3) by decide +kernel) cld_126_18 ⟨6, _, _, rfl, by decide, rfl⟩ wd_125 wd_126 wd_127), List.forall_mem_cons.mpr ⟨
  s_inst (show decode (cod 126) 17 = .ok (.instanceof 62, 3) by decide +kernel) wd_176 (List.forall_mem_cons.mpr ⟨⟨"StepsAhead$Call", ⟨0, _, _, rfl, by decide, rfl⟩, Or.inl rfl⟩, fun _ h => by cases h⟩) (List.forall_mem_cons.mpr ⟨⟨"StepsAhead$Either", ⟨1, _, _, rfl, by decide, rfl⟩, Or.inl (by decide)⟩, List.forall_mem_cons.mpr ⟨⟨"StepsAhead$Loop", ⟨2, _, _, rfl, by decide, rfl⟩, Or.inl (by decide)⟩, List.forall_mem_cons.mpr ⟨⟨"StepsAhead$Op", ⟨3, _, _, rfl, by decide, rfl⟩, Or.inl (by decide)⟩, List.forall_mem_cons.mpr ⟨⟨"StepsAhead$Work", ⟨9, _, _, rfl, by decide, rfl⟩, Or.inl (by decide)⟩, fun _ h => by cases h⟩⟩⟩⟩), List.forall_mem_cons.mpr ⟨
  s_ifeq (show decode (cod 126) 20 = .ok (.ifCond .eq 6, 3) by decide +kernel) (by decide), List.forall_mem_cons.mpr ⟨
  s_iinc (show decode (cod 126) 23 = .ok (.iinc 1 1, 3) by decide +kernel) rfl, List.forall_mem_cons.mpr ⟨
  s_iinc (show decode (cod 126) 26 = .ok (.iinc 2 1, 3) by decide +kernel) rfl, List.forall_mem_cons.mpr ⟨
  s_goto (show decode (cod 126) 29 = .ok (.goto (-25), 3) by decide +kernel) (by decide), List.forall_mem_cons.mpr ⟨
  s_iload_n (k := 1) (show decode (cod 126) 32 = .ok (.iload_n 1, 1) by decide +kernel), List.forall_mem_cons.mpr ⟨
  s_ret (show decode (cod 126) 33 = .ok (.ireturn, 1) by decide +kernel) rI_ok (fun h => by cases h), fun _ h => by cases h⟩⟩⟩⟩⟩⟩⟩⟩⟩⟩⟩⟩⟩⟩⟩⟩⟩⟩
set_option maxRecDepth 100000 in
theorem si126 (X : CX) (l : Launch) : ∀ q ∈ pt126, SI X l 126 q.1 q.2 :=  si126_0 X l
set_option maxRecDepth 100000 in
set_option maxHeartbeats 4000000 in
theorem si127_0 (X : CX) (l : Launch) : ∀ q ∈ ([(0, iP 1 (fAld 0)), (1, iW 4 wObj), (4, iP 5 (fAld 0)), (5, iP 7 (fK (.inl 8))), (7, iW 9 (wNa 20)), (9, iW 12 (ptR 51)), (12, iP 13 (fAld 0)), (13, iP 16 (fK (.inl 192))), (16, iW 18 (wNa 20)), (18, iW 21 (ptR 52)), (21, iP 22 (fAld 0)), (22, iP 25 (fK (.inl 192))), (25, iW 27 (wNa 20)), (27, iW 30 (ptR 53)), (30, iP 31 (fAld 0)), (31, iP 34 (fK (.inl 192))), (34, iW 36 (wNa 20)), (36, iW 39 (ptR 54)), (39, iP 40 (fAld 0)), (40, iP 43 (fK (.inl 2304))), (43, iW 45 (wNa 20)), (45, iW 48 (ptR 55)), (48, iP 49 (fAld 0)), (49, iP 51 (fK (.inl 12))), (51, iW 53 (wNa 20)), (53, iW 56 (ptR 56)), (56, iP 57 (fAld 0)), (57, iP 58 (fK (.inl 1))), (58, iW 61 (ptI 57)), (61, iP 62 (fAld 0)), (62, iP 64 (fK (.inl 16))), (64, iW 66 (wNa 20)), (66, iW 69 (ptR 58)), (69, iP 70 (fAld 0)), (70, iP 73 (fK (.inl 1260))), (73, iW 75 (wNa 20)), (75, iW 78 (ptR 61)), (78, iP 79 (fAld 0)), (79, iP 82 (fK (.inl 7776))), (82, iW 84 (wNa 20))] : List (Nat × AS)), SI X l 127 q.1 q.2 := List.forall_mem_cons.mpr ⟨
  s_aload_n (k := 0) (show decode (cod 127) 0 = .ok (.aload_n 0, 1) by decide +kernel), List.forall_mem_cons.mpr ⟨
  s_objInit (show decode (cod 127) 1 = .ok (.invokespecial 1, 3) by decide +kernel) wd_606 wd_1 wd_2 (by decide), List.forall_mem_cons.mpr ⟨
  s_aload_n (k := 0) (show decode (cod 127) 4 = .ok (.aload_n 0, 1) by decide +kernel), List.forall_mem_cons.mpr ⟨
  s_bipush (show decode (cod 127) 5 = .ok (.bipush 8, 2) by decide +kernel) rfl, List.forall_mem_cons.mpr ⟨
  s_newarr (show decode (cod 127) 7 = .ok (.newarray .int, 2) by decide +kernel) (by decide) rfl wd_6, List.forall_mem_cons.mpr ⟨
  s_putR (show decode (cod 127) 9 = .ok (.putfield 7, 3) by decide +kernel) wd_607 (Or.inl rfl) (Or.inr ⟨rfl, rfl, rfl⟩) rfl, List.forall_mem_cons.mpr ⟨
  s_aload_n (k := 0) (show decode (cod 127) 12 = .ok (.aload_n 0, 1) by decide +kernel), List.forall_mem_cons.mpr ⟨
  s_sipush (show decode (cod 127) 13 = .ok (.sipush 192, 3) by decide +kernel) rfl, List.forall_mem_cons.mpr ⟨
  s_newarr (show decode (cod 127) 16 = .ok (.newarray .int, 2) by decide +kernel) (by decide) rfl wd_6, List.forall_mem_cons.mpr ⟨
  s_putR (show decode (cod 127) 18 = .ok (.putfield 13, 3) by decide +kernel) wd_608 (Or.inl rfl) (Or.inr ⟨rfl, rfl, rfl⟩) rfl, List.forall_mem_cons.mpr ⟨
  s_aload_n (k := 0) (show decode (cod 127) 21 = .ok (.aload_n 0, 1) by decide +kernel), List.forall_mem_cons.mpr ⟨
  s_sipush (show decode (cod 127) 22 = .ok (.sipush 192, 3) by decide +kernel) rfl, List.forall_mem_cons.mpr ⟨
  s_newarr (show decode (cod 127) 25 = .ok (.newarray .int, 2) by decide +kernel) (by decide) rfl wd_6, List.forall_mem_cons.mpr ⟨
  s_putR (show decode (cod 127) 27 = .ok (.putfield 16, 3) by decide +kernel) wd_609 (Or.inl rfl) (Or.inr ⟨rfl, rfl, rfl⟩) rfl, List.forall_mem_cons.mpr ⟨
  s_aload_n (k := 0) (show decode (cod 127) 30 = .ok (.aload_n 0, 1) by decide +kernel), List.forall_mem_cons.mpr ⟨
  s_sipush (show decode (cod 127) 31 = .ok (.sipush 192, 3) by decide +kernel) rfl, List.forall_mem_cons.mpr ⟨
  s_newarr (show decode (cod 127) 34 = .ok (.newarray .int, 2) by decide +kernel) (by decide) rfl wd_6, List.forall_mem_cons.mpr ⟨
  s_putR (show decode (cod 127) 36 = .ok (.putfield 19, 3) by decide +kernel) wd_610 (Or.inl rfl) (Or.inr ⟨rfl, rfl, rfl⟩) rfl, List.forall_mem_cons.mpr ⟨
  s_aload_n (k := 0) (show decode (cod 127) 39 = .ok (.aload_n 0, 1) by decide +kernel), List.forall_mem_cons.mpr ⟨
  s_sipush (show decode (cod 127) 40 = .ok (.sipush 2304, 3) by decide +kernel) rfl, List.forall_mem_cons.mpr ⟨
  s_newarr (show decode (cod 127) 43 = .ok (.newarray .int, 2) by decide +kernel) (by decide) rfl wd_6, List.forall_mem_cons.mpr ⟨
  s_putR (show decode (cod 127) 45 = .ok (.putfield 22, 3) by decide +kernel) wd_611 (Or.inl rfl) (Or.inr ⟨rfl, rfl, rfl⟩) rfl, List.forall_mem_cons.mpr ⟨
  s_aload_n (k := 0) (show decode (cod 127) 48 = .ok (.aload_n 0, 1) by decide +kernel), List.forall_mem_cons.mpr ⟨
  s_bipush (show decode (cod 127) 49 = .ok (.bipush 12, 2) by decide +kernel) rfl, List.forall_mem_cons.mpr ⟨
  s_newarr (show decode (cod 127) 51 = .ok (.newarray .int, 2) by decide +kernel) (by decide) rfl wd_6, List.forall_mem_cons.mpr ⟨
  s_putR (show decode (cod 127) 53 = .ok (.putfield 25, 3) by decide +kernel) wd_612 (Or.inl rfl) (Or.inr ⟨rfl, rfl, rfl⟩) rfl, List.forall_mem_cons.mpr ⟨
  s_aload_n (k := 0) (show decode (cod 127) 56 = .ok (.aload_n 0, 1) by decide +kernel), List.forall_mem_cons.mpr ⟨
  s_iconst (show decode (cod 127) 57 = .ok (.iconst 1, 1) by decide +kernel) rfl, List.forall_mem_cons.mpr ⟨
  s_putI (show decode (cod 127) 58 = .ok (.putfield 28, 3) by decide +kernel) wd_613 (Or.inl rfl) (Or.inl rfl) rfl, List.forall_mem_cons.mpr ⟨
  s_aload_n (k := 0) (show decode (cod 127) 61 = .ok (.aload_n 0, 1) by decide +kernel), List.forall_mem_cons.mpr ⟨
  s_bipush (show decode (cod 127) 62 = .ok (.bipush 16, 2) by decide +kernel) rfl, List.forall_mem_cons.mpr ⟨
  s_newarr (show decode (cod 127) 64 = .ok (.newarray .int, 2) by decide +kernel) (by decide) rfl wd_6, List.forall_mem_cons.mpr ⟨
  s_putR (show decode (cod 127) 66 = .ok (.putfield 32, 3) by decide +kernel) wd_614 (Or.inl rfl) (Or.inr ⟨rfl, rfl, rfl⟩) rfl, List.forall_mem_cons.mpr ⟨
  s_aload_n (k := 0) (show decode (cod 127) 69 = .ok (.aload_n 0, 1) by decide +kernel), List.forall_mem_cons.mpr ⟨
  s_sipush (show decode (cod 127) 70 = .ok (.sipush 1260, 3) by decide +kernel) rfl, List.forall_mem_cons.mpr ⟨
  s_newarr (show decode (cod 127) 73 = .ok (.newarray .int, 2) by decide +kernel) (by decide) rfl wd_6, List.forall_mem_cons.mpr ⟨
  s_putR (show decode (cod 127) 75 = .ok (.putfield 35, 3) by decide +kernel) wd_615 (Or.inl rfl) (Or.inr ⟨rfl, rfl, rfl⟩) rfl, List.forall_mem_cons.mpr ⟨
  s_aload_n (k := 0) (show decode (cod 127) 78 = .ok (.aload_n 0, 1) by decide +kernel), List.forall_mem_cons.mpr ⟨
  s_sipush (show decode (cod 127) 79 = .ok (.sipush 7776, 3) by decide +kernel) rfl, List.forall_mem_cons.mpr ⟨
  s_newarr (show decode (cod 127) 82 = .ok (.newarray .int, 2) by decide +kernel) (by decide) rfl wd_6, fun _ h => by cases h⟩⟩⟩⟩⟩⟩⟩⟩⟩⟩⟩⟩⟩⟩⟩⟩⟩⟩⟩⟩⟩⟩⟩⟩⟩⟩⟩⟩⟩⟩⟩⟩⟩⟩⟩⟩⟩⟩⟩⟩
set_option maxRecDepth 100000 in
set_option maxHeartbeats 4000000 in
theorem si127_1 (X : CX) (l : Launch) : ∀ q ∈ ([(84, iW 87 (ptR 62)), (87, iP 88 (fAld 0)), (88, iP 90 (fK (.inl 24))), (90, iW 92 (wNa 20)), (92, iW 95 (ptR 64)), (95, iP 96 (fAld 0)), (96, iP 98 (fK (.inl 24))), (98, iW 100 (wNa 20)), (100, iW 103 (ptR 65)), (103, iP 104 (fAld 0)), (104, iP 107 (fK (.inl 17640))), (107, iW 109 (wNa 21)), (109, iW 112 (ptR 67)), (112, iP 113 (fAld 0)), (113, iP 115 (fK (.inl 8))), (115, iW 117 (wNa 22)), (117, iW 120 (ptR 68)), (120, iP 121 (fAld 0)), (121, iP 123 (fK (.inl 8))), (123, iW 125 (wNa 22)), (125, iW 128 (ptR 69)), (128, iP 129 (fAld 0)), (129, iP 131 (fK (.inl 16))), (131, iW 133 (wNa 22)), (133, iW 136 (ptR 70)), (136, iP 137 (fAld 0)), (137, iP 140 (fK (.inl 252))), (140, iW 142 (wNa 21)), (142, iW 145 (ptR 71)), (145, iP 146 (fAld 0)), (146, iP 149 (fK (.inl 252))), (149, iW 151 (wNa 21)), (151, iW 154 (ptR 72)), (154, iP 155 (fAld 0)), (155, iP 157 (fK (.inl 30))), (157, iW 159 (wNa 20)), (159, iP 160 fDup), (160, iP 161 (fK (.inl 0))), (161, iP 162 (fK (.inl 0))), (162, iW 163 wAI)] : List (Nat × AS)), SI X l 127 q.1 q.2 := List.forall_mem_cons.mpr ⟨
  s_putR (show decode (cod 127) 84 = .ok (.putfield 38, 3) by decide +kernel) wd_616 (Or.inl rfl) (Or.inr ⟨rfl, rfl, rfl⟩) rfl, List.forall_mem_cons.mpr ⟨
  s_aload_n (k := 0) (show decode (cod 127) 87 = .ok (.aload_n 0, 1) by decide +kernel), List.forall_mem_cons.mpr ⟨
  s_bipush (show decode (cod 127) 88 = .ok (.bipush 24, 2) by decide +kernel) rfl, List.forall_mem_cons.mpr ⟨
  s_newarr (show decode (cod 127) 90 = .ok (.newarray .int, 2) by decide +kernel) (by decide) rfl wd_6, List.forall_mem_cons.mpr ⟨
  s_putR (show decode (cod 127) 92 = .ok (.putfield 41, 3) by decide +kernel) wd_617 (Or.inl rfl) (Or.inr ⟨rfl, rfl, rfl⟩) rfl, List.forall_mem_cons.mpr ⟨
  s_aload_n (k := 0) (show decode (cod 127) 95 = .ok (.aload_n 0, 1) by decide +kernel), List.forall_mem_cons.mpr ⟨
  s_bipush (show decode (cod 127) 96 = .ok (.bipush 24, 2) by decide +kernel) rfl, List.forall_mem_cons.mpr ⟨
  s_newarr (show decode (cod 127) 98 = .ok (.newarray .int, 2) by decide +kernel) (by decide) rfl wd_6, List.forall_mem_cons.mpr ⟨
  s_putR (show decode (cod 127) 100 = .ok (.putfield 44, 3) by decide +kernel) wd_618 (Or.inl rfl) (Or.inr ⟨rfl, rfl, rfl⟩) rfl, List.forall_mem_cons.mpr ⟨
  s_aload_n (k := 0) (show decode (cod 127) 103 = .ok (.aload_n 0, 1) by decide +kernel), List.forall_mem_cons.mpr ⟨
  s_sipush (show decode (cod 127) 104 = .ok (.sipush 17640, 3) by decide +kernel) rfl, List.forall_mem_cons.mpr ⟨
  s_newarr (show decode (cod 127) 107 = .ok (.newarray .long, 2) by decide +kernel) (by decide) rfl wd_44, List.forall_mem_cons.mpr ⟨
  s_putR (show decode (cod 127) 109 = .ok (.putfield 47, 3) by decide +kernel) wd_619 (Or.inl rfl) (Or.inr ⟨rfl, rfl, rfl⟩) rfl, List.forall_mem_cons.mpr ⟨
  s_aload_n (k := 0) (show decode (cod 127) 112 = .ok (.aload_n 0, 1) by decide +kernel), List.forall_mem_cons.mpr ⟨
  s_bipush (show decode (cod 127) 113 = .ok (.bipush 8, 2) by decide +kernel) rfl, List.forall_mem_cons.mpr ⟨
  s_newarr (show decode (cod 127) 115 = .ok (.newarray .boolean, 2) by decide +kernel) (by decide) rfl wd_620, List.forall_mem_cons.mpr ⟨
  s_putR (show decode (cod 127) 117 = .ok (.putfield 51, 3) by decide +kernel) wd_621 (Or.inl rfl) (Or.inr ⟨rfl, rfl, rfl⟩) rfl, List.forall_mem_cons.mpr ⟨
  s_aload_n (k := 0) (show decode (cod 127) 120 = .ok (.aload_n 0, 1) by decide +kernel), List.forall_mem_cons.mpr ⟨
  s_bipush (show decode (cod 127) 121 = .ok (.bipush 8, 2) by decide +kernel) rfl, List.forall_mem_cons.mpr ⟨
  s_newarr (show decode (cod 127) 123 = .ok (.newarray .boolean, 2) by decide +kernel) (by decide) rfl wd_620, List.forall_mem_cons.mpr ⟨
  s_putR (show decode (cod 127) 125 = .ok (.putfield 55, 3) by decide +kernel) wd_622 (Or.inl rfl) (Or.inr ⟨rfl, rfl, rfl⟩) rfl, List.forall_mem_cons.mpr ⟨
  s_aload_n (k := 0) (show decode (cod 127) 128 = .ok (.aload_n 0, 1) by decide +kernel), List.forall_mem_cons.mpr ⟨
  s_bipush (show decode (cod 127) 129 = .ok (.bipush 16, 2) by decide +kernel) rfl, List.forall_mem_cons.mpr ⟨
  s_newarr (show decode (cod 127) 131 = .ok (.newarray .boolean, 2) by decide +kernel) (by decide) rfl wd_620, List.forall_mem_cons.mpr ⟨
  s_putR (show decode (cod 127) 133 = .ok (.putfield 58, 3) by decide +kernel) wd_623 (Or.inl rfl) (Or.inr ⟨rfl, rfl, rfl⟩) rfl, List.forall_mem_cons.mpr ⟨
  s_aload_n (k := 0) (show decode (cod 127) 136 = .ok (.aload_n 0, 1) by decide +kernel), List.forall_mem_cons.mpr ⟨
  s_sipush (show decode (cod 127) 137 = .ok (.sipush 252, 3) by decide +kernel) rfl, List.forall_mem_cons.mpr ⟨
  s_newarr (show decode (cod 127) 140 = .ok (.newarray .long, 2) by decide +kernel) (by decide) rfl wd_44, List.forall_mem_cons.mpr ⟨
  s_putR (show decode (cod 127) 142 = .ok (.putfield 61, 3) by decide +kernel) wd_624 (Or.inl rfl) (Or.inr ⟨rfl, rfl, rfl⟩) rfl, List.forall_mem_cons.mpr ⟨
  s_aload_n (k := 0) (show decode (cod 127) 145 = .ok (.aload_n 0, 1) by decide +kernel), List.forall_mem_cons.mpr ⟨
  s_sipush (show decode (cod 127) 146 = .ok (.sipush 252, 3) by decide +kernel) rfl, List.forall_mem_cons.mpr ⟨
  s_newarr (show decode (cod 127) 149 = .ok (.newarray .long, 2) by decide +kernel) (by decide) rfl wd_44, List.forall_mem_cons.mpr ⟨
  s_putR (show decode (cod 127) 151 = .ok (.putfield 64, 3) by decide +kernel) wd_625 (Or.inl rfl) (Or.inr ⟨rfl, rfl, rfl⟩) rfl, List.forall_mem_cons.mpr ⟨
  s_aload_n (k := 0) (show decode (cod 127) 154 = .ok (.aload_n 0, 1) by decide +kernel), List.forall_mem_cons.mpr ⟨
  s_bipush (show decode (cod 127) 155 = .ok (.bipush 30, 2) by decide +kernel) rfl, List.forall_mem_cons.mpr ⟨
  s_newarr (show decode (cod 127) 157 = .ok (.newarray .int, 2) by decide +kernel) (by decide) rfl wd_6, List.forall_mem_cons.mpr ⟨
  s_dup (show decode (cod 127) 159 = .ok (.dup, 1) by decide +kernel), List.forall_mem_cons.mpr ⟨
  s_iconst (show decode (cod 127) 160 = .ok (.iconst 0, 1) by decide +kernel) rfl, List.forall_mem_cons.mpr ⟨
  s_iconst (show decode (cod 127) 161 = .ok (.iconst 0, 1) by decide +kernel) rfl, List.forall_mem_cons.mpr ⟨
  s_iastore (show decode (cod 127) 162 = .ok (.iastore, 1) by decide +kernel), fun _ h => by cases h⟩⟩⟩⟩⟩⟩⟩⟩⟩⟩⟩⟩⟩⟩⟩⟩⟩⟩⟩⟩⟩⟩⟩⟩⟩⟩⟩⟩⟩⟩⟩⟩⟩⟩⟩⟩⟩⟩⟩⟩
set_option maxRecDepth 100000 in
set_option maxHeartbeats 4000000 in
theorem si127_2 (X : CX) (l : Launch) : ∀ q ∈ ([(163, iP 164 fDup), (164, iP 165 (fK (.inl 1))), (165, iP 167 (fK (.inl 60))), (167, iW 168 wAI), (168, iP 169 fDup), (169, iP 170 (fK (.inl 2))), (170, iP 171 (fK (.inl 0))), (171, iW 172 wAI), (172, iP 173 fDup), (173, iP 174 (fK (.inl 3))), (174, iP 175 (fK (.inl 0))), (175, iW 176 wAI), (176, iP 177 fDup), (177, iP 178 (fK (.inl 4))), (178, iP 179 (fK (.inl 0))), (179, iW 180 wAI), (180, iP 181 fDup), (181, iP 182 (fK (.inl 5))), (182, iP 183 (fK (.inl 0))), (183, iW 184 wAI), (184, iP 185 fDup), (185, iP 187 (fK (.inl 6))), (187, iP 188 (fK (.inl 0))), (188, iW 189 wAI), (189, iP 190 fDup), (190, iP 192 (fK (.inl 7))), (192, iP 194 (fK (.inl 30))), (194, iW 195 wAI), (195, iP 196 fDup), (196, iP 198 (fK (.inl 8))), (198, iP 200 (fK (.inl 30))), (200, iW 201 wAI), (201, iP 202 fDup), (202, iP 204 (fK (.inl 9))), (204, iP 205 (fK (.inl 0))), (205, iW 206 wAI), (206, iP 207 fDup), (207, iP 209 (fK (.inl 10))), (209, iP 210 (fK (.inl 0))), (210, iW 211 wAI)] : List (Nat × AS)), SI X l 127 q.1 q.2 := List.forall_mem_cons.mpr ⟨
  s_dup (show decode (cod 127) 163 = .ok (.dup, 1) by decide +kernel), List.forall_mem_cons.mpr ⟨
  s_iconst (show decode (cod 127) 164 = .ok (.iconst 1, 1) by decide +kernel) rfl, List.forall_mem_cons.mpr ⟨
  s_bipush (show decode (cod 127) 165 = .ok (.bipush 60, 2) by decide +kernel) rfl, List.forall_mem_cons.mpr ⟨
  s_iastore (show decode (cod 127) 167 = .ok (.iastore, 1) by decide +kernel), List.forall_mem_cons.mpr ⟨
  s_dup (show decode (cod 127) 168 = .ok (.dup, 1) by decide +kernel), List.forall_mem_cons.mpr ⟨
  s_iconst (show decode (cod 127) 169 = .ok (.iconst 2, 1) by decide +kernel) rfl, List.forall_mem_cons.mpr ⟨
  s_iconst (show decode (cod 127) 170 = .ok (.iconst 0, 1) by decide +kernel) rfl, List.forall_mem_cons.mpr ⟨
  s_iastore (show decode (cod 127) 171 = .ok (.iastore, 1) by decide +kernel), List.forall_mem_cons.mpr ⟨
  s_dup (show decode (cod 127) 172 = .ok (.dup, 1) by decide +kernel), List.forall_mem_cons.mpr ⟨
  s_iconst (show decode (cod 127) 173 = .ok (.iconst 3, 1) by decide +kernel) rfl, List.forall_mem_cons.mpr ⟨
  s_iconst (show decode (cod 127) 174 = .ok (.iconst 0, 1) by decide +kernel) rfl, List.forall_mem_cons.mpr ⟨
  s_iastore (show decode (cod 127) 175 = .ok (.iastore, 1) by decide +kernel), List.forall_mem_cons.mpr ⟨
  s_dup (show decode (cod 127) 176 = .ok (.dup, 1) by decide +kernel), List.forall_mem_cons.mpr ⟨
  s_iconst (show decode (cod 127) 177 = .ok (.iconst 4, 1) by decide +kernel) rfl, List.forall_mem_cons.mpr ⟨
  s_iconst (show decode (cod 127) 178 = .ok (.iconst 0, 1) by decide +kernel) rfl, List.forall_mem_cons.mpr ⟨
  s_iastore (show decode (cod 127) 179 = .ok (.iastore, 1) by decide +kernel), List.forall_mem_cons.mpr ⟨
  s_dup (show decode (cod 127) 180 = .ok (.dup, 1) by decide +kernel), List.forall_mem_cons.mpr ⟨
  s_iconst (show decode (cod 127) 181 = .ok (.iconst 5, 1) by decide +kernel) rfl, List.forall_mem_cons.mpr ⟨
  s_iconst (show decode (cod 127) 182 = .ok (.iconst 0, 1) by decide +kernel) rfl, List.forall_mem_cons.mpr ⟨
  s_iastore (show decode (cod 127) 183 = .ok (.iastore, 1) by decide +kernel), List.forall_mem_cons.mpr ⟨
  s_dup (show decode (cod 127) 184 = .ok (.dup, 1) by decide +kernel), List.forall_mem_cons.mpr ⟨
  s_bipush (show decode (cod 127) 185 = .ok (.bipush 6, 2) by decide +kernel) rfl, List.forall_mem_cons.mpr ⟨
  s_iconst (show decode (cod 127) 187 = .ok (.iconst 0, 1) by decide +kernel) rfl, List.forall_mem_cons.mpr ⟨
  s_iastore (show decode (cod 127) 188 = .ok (.iastore, 1) by decide +kernel), List.forall_mem_cons.mpr ⟨
  s_dup (show decode (cod 127) 189 = .ok (.dup, 1) by decide +kernel), List.forall_mem_cons.mpr ⟨
  s_bipush (show decode (cod 127) 190 = .ok (.bipush 7, 2) by decide +kernel) rfl, List.forall_mem_cons.mpr ⟨
  s_bipush (show decode (cod 127) 192 = .ok (.bipush 30, 2) by decide +kernel) rfl, List.forall_mem_cons.mpr ⟨
  s_iastore (show decode (cod 127) 194 = .ok (.iastore, 1) by decide +kernel), List.forall_mem_cons.mpr ⟨
  s_dup (show decode (cod 127) 195 = .ok (.dup, 1) by decide +kernel), List.forall_mem_cons.mpr ⟨
  s_bipush (show decode (cod 127) 196 = .ok (.bipush 8, 2) by decide +kernel) rfl, List.forall_mem_cons.mpr ⟨
  s_bipush (show decode (cod 127) 198 = .ok (.bipush 30, 2) by decide +kernel) rfl, List.forall_mem_cons.mpr ⟨
  s_iastore (show decode (cod 127) 200 = .ok (.iastore, 1) by decide +kernel), List.forall_mem_cons.mpr ⟨
  s_dup (show decode (cod 127) 201 = .ok (.dup, 1) by decide +kernel), List.forall_mem_cons.mpr ⟨
  s_bipush (show decode (cod 127) 202 = .ok (.bipush 9, 2) by decide +kernel) rfl, List.forall_mem_cons.mpr ⟨
  s_iconst (show decode (cod 127) 204 = .ok (.iconst 0, 1) by decide +kernel) rfl, List.forall_mem_cons.mpr ⟨
  s_iastore (show decode (cod 127) 205 = .ok (.iastore, 1) by decide +kernel), List.forall_mem_cons.mpr ⟨
  s_dup (show decode (cod 127) 206 = .ok (.dup, 1) by decide +kernel), List.forall_mem_cons.mpr ⟨
  s_bipush (show decode (cod 127) 207 = .ok (.bipush 10, 2) by decide +kernel) rfl, List.forall_mem_cons.mpr ⟨
  s_iconst (show decode (cod 127) 209 = .ok (.iconst 0, 1) by decide +kernel) rfl, List.forall_mem_cons.mpr ⟨
  s_iastore (show decode (cod 127) 210 = .ok (.iastore, 1) by decide +kernel), fun _ h => by cases h⟩⟩⟩⟩⟩⟩⟩⟩⟩⟩⟩⟩⟩⟩⟩⟩⟩⟩⟩⟩⟩⟩⟩⟩⟩⟩⟩⟩⟩⟩⟩⟩⟩⟩⟩⟩⟩⟩⟩⟩
set_option maxRecDepth 100000 in
set_option maxHeartbeats 4000000 in
theorem si127_3 (X : CX) (l : Launch) : ∀ q ∈ ([(211, iP 212 fDup), (212, iP 214 (fK (.inl 11))), (214, iP 215 (fK (.inl 0))), (215, iW 216 wAI), (216, iP 217 fDup), (217, iP 219 (fK (.inl 12))), (219, iP 220 (fK (.inl 0))), (220, iW 221 wAI), (221, iP 222 fDup), (222, iP 224 (fK (.inl 13))), (224, iP 226 (fK (.inl 10))), (226, iW 227 wAI), (227, iP 228 fDup), (228, iP 230 (fK (.inl 14))), (230, iP 232 (fK (.inl 30))), (232, iW 233 wAI), (233, iP 234 fDup), (234, iP 236 (fK (.inl 15))), (236, iP 238 (fK (.inl 20))), (238, iW 239 wAI), (239, iP 240 fDup), (240, iP 242 (fK (.inl 16))), (242, iP 243 (fK (.inl 0))), (243, iW 244 wAI), (244, iP 245 fDup), (245, iP 247 (fK (.inl 17))), (247, iP 248 (fK (.inl 0))), (248, iW 249 wAI), (249, iP 250 fDup), (250, iP 252 (fK (.inl 18))), (252, iP 253 (fK (.inl 0))), (253, iW 254 wAI), (254, iP 255 fDup), (255, iP 257 (fK (.inl 19))), (257, iP 258 (fK (.inl 0))), (258, iW 259 wAI), (259, iP 260 fDup), (260, iP 262 (fK (.inl 20))), (262, iP 264 (fK (.inl 15))), (264, iW 265 wAI)] : List (Nat × AS)), SI X l 127 q.1 q.2 := List.forall_mem_cons.mpr ⟨
  s_dup (show decode (cod 127) 211 = .ok (.dup, 1) by decide +kernel), List.forall_mem_cons.mpr ⟨
  s_bipush (show decode (cod 127) 212 = .ok (.bipush 11, 2) by decide +kernel) rfl, List.forall_mem_cons.mpr ⟨
  s_iconst (show decode (cod 127) 214 = .ok (.iconst 0, 1) by decide +kernel) rfl, List.forall_mem_cons.mpr ⟨
  s_iastore (show decode (cod 127) 215 = .ok (.iastore, 1) by decide +kernel), List.forall_mem_cons.mpr ⟨
  s_dup (show decode (cod 127) 216 = .ok (.dup, 1) by decide +kernel), List.forall_mem_cons.mpr ⟨
  s_bipush (show decode (cod 127) 217 = .ok (.bipush 12, 2) by decide +kernel) rfl, List.forall_mem_cons.mpr ⟨
  s_iconst (show decode (cod 127) 219 = .ok (.iconst 0, 1) by decide +kernel) rfl, List.forall_mem_cons.mpr ⟨
  s_iastore (show decode (cod 127) 220 = .ok (.iastore, 1) by decide +kernel), List.forall_mem_cons.mpr ⟨
  s_dup (show decode (cod 127) 221 = .ok (.dup, 1) by decide +kernel), List.forall_mem_cons.mpr ⟨
  s_bipush (show decode (cod 127) 222 = .ok (.bipush 13, 2) by decide +kernel) rfl, List.forall_mem_cons.mpr ⟨
  s_bipush (show decode (cod 127) 224 = .ok (.bipush 10, 2) by decide +kernel) rfl, List.forall_mem_cons.mpr ⟨
  s_iastore (show decode (cod 127) 226 = .ok (.iastore, 1) by decide +kernel), List.forall_mem_cons.mpr ⟨
  s_dup (show decode (cod 127) 227 = .ok (.dup, 1) by decide +kernel), List.forall_mem_cons.mpr ⟨
  s_bipush (show decode (cod 127) 228 = .ok (.bipush 14, 2) by decide +kernel) rfl, List.forall_mem_cons.mpr ⟨
  s_bipush (show decode (cod 127) 230 = .ok (.bipush 30, 2) by decide +kernel) rfl, List.forall_mem_cons.mpr ⟨
  s_iastore (show decode (cod 127) 232 = .ok (.iastore, 1) by decide +kernel), List.forall_mem_cons.mpr ⟨
  s_dup (show decode (cod 127) 233 = .ok (.dup, 1) by decide +kernel), List.forall_mem_cons.mpr ⟨
  s_bipush (show decode (cod 127) 234 = .ok (.bipush 15, 2) by decide +kernel) rfl, List.forall_mem_cons.mpr ⟨
  s_bipush (show decode (cod 127) 236 = .ok (.bipush 20, 2) by decide +kernel) rfl, List.forall_mem_cons.mpr ⟨
  s_iastore (show decode (cod 127) 238 = .ok (.iastore, 1) by decide +kernel), List.forall_mem_cons.mpr ⟨
  s_dup (show decode (cod 127) 239 = .ok (.dup, 1) by decide +kernel), List.forall_mem_cons.mpr ⟨
  s_bipush (show decode (cod 127) 240 = .ok (.bipush 16, 2) by decide +kernel) rfl, List.forall_mem_cons.mpr ⟨
  s_iconst (show decode (cod 127) 242 = .ok (.iconst 0, 1) by decide +kernel) rfl, List.forall_mem_cons.mpr ⟨
  s_iastore (show decode (cod 127) 243 = .ok (.iastore, 1) by decide +kernel), List.forall_mem_cons.mpr ⟨
  s_dup (show decode (cod 127) 244 = .ok (.dup, 1) by decide +kernel), List.forall_mem_cons.mpr ⟨
  s_bipush (show decode (cod 127) 245 = .ok (.bipush 17, 2) by decide +kernel) rfl, List.forall_mem_cons.mpr ⟨
  s_iconst (show decode (cod 127) 247 = .ok (.iconst 0, 1) by decide +kernel) rfl, List.forall_mem_cons.mpr ⟨
  s_iastore (show decode (cod 127) 248 = .ok (.iastore, 1) by decide +kernel), List.forall_mem_cons.mpr ⟨
  s_dup (show decode (cod 127) 249 = .ok (.dup, 1) by decide +kernel), List.forall_mem_cons.mpr ⟨
  s_bipush (show decode (cod 127) 250 = .ok (.bipush 18, 2) by decide +kernel) rfl, List.forall_mem_cons.mpr ⟨
  s_iconst (show decode (cod 127) 252 = .ok (.iconst 0, 1) by decide +kernel) rfl, List.forall_mem_cons.mpr ⟨
  s_iastore (show decode (cod 127) 253 = .ok (.iastore, 1) by decide +kernel), List.forall_mem_cons.mpr ⟨
  s_dup (show decode (cod 127) 254 = .ok (.dup, 1) by decide +kernel), List.forall_mem_cons.mpr ⟨
  s_bipush (show decode (cod 127) 255 = .ok (.bipush 19, 2) by decide +kernel) rfl, List.forall_mem_cons.mpr ⟨
  s_iconst (show decode (cod 127) 257 = .ok (.iconst 0, 1) by decide +kernel) rfl, List.forall_mem_cons.mpr ⟨
  s_iastore (show decode (cod 127) 258 = .ok (.iastore, 1) by decide +kernel), List.forall_mem_cons.mpr ⟨
  s_dup (show decode (cod 127) 259 = .ok (.dup, 1) by decide +kernel), List.forall_mem_cons.mpr ⟨
  s_bipush (show decode (cod 127) 260 = .ok (.bipush 20, 2) by decide +kernel) rfl, List.forall_mem_cons.mpr ⟨
  s_bipush (show decode (cod 127) 262 = .ok (.bipush 15, 2) by decide +kernel) rfl, List.forall_mem_cons.mpr ⟨
  s_iastore (show decode (cod 127) 264 = .ok (.iastore, 1) by decide +kernel), fun _ h => by cases h⟩⟩⟩⟩⟩⟩⟩⟩⟩⟩⟩⟩⟩⟩⟩⟩⟩⟩⟩⟩⟩⟩⟩⟩⟩⟩⟩⟩⟩⟩⟩⟩⟩⟩⟩⟩⟩⟩⟩⟩
set_option maxRecDepth 100000 in
set_option maxHeartbeats 4000000 in
theorem si127_4 (X : CX) (l : Launch) : ∀ q ∈ ([(265, iP 266 fDup), (266, iP 268 (fK (.inl 21))), (268, iP 270 (fK (.inl 30))), (270, iW 271 wAI), (271, iP 272 fDup), (272, iP 274 (fK (.inl 22))), (274, iP 276 (fK (.inl 15))), (276, iW 277 wAI), (277, iP 278 fDup), (278, iP 280 (fK (.inl 23))), (280, iP 281 (fK (.inl 0))), (281, iW 282 wAI), (282, iP 283 fDup), (283, iP 285 (fK (.inl 24))), (285, iP 286 (fK (.inl 0))), (286, iW 287 wAI), (287, iP 288 fDup), (288, iP 290 (fK (.inl 25))), (290, iP 292 (fK (.inl (-2)))), (292, iW 293 wAI), (293, iP 294 fDup), (294, iP 296 (fK (.inl 26))), (296, iP 297 (fK (.inl 0))), (297, iW 298 wAI), (298, iP 299 fDup), (299, iP 301 (fK (.inl 27))), (301, iP 303 (fK (.inl 20))), (303, iW 304 wAI), (304, iP 305 fDup), (305, iP 307 (fK (.inl 28))), (307, iP 309 (fK (.inl 30))), (309, iW 310 wAI), (310, iP 311 fDup), (311, iP 313 (fK (.inl 29))), (313, iP 315 (fK (.inl 12))), (315, iW 316 wAI), (316, iW 319 (ptR 73)), (319, iP 320 (fAld 0)), (320, iP 322 (fK (.inl 24))), (322, iW 324 (wNa 20))] : List (Nat × AS)), SI X l 127 q.1 q.2 := List.forall_mem_cons.mpr ⟨
  s_dup (show decode (cod 127) 265 = .ok (.dup, 1) by decide +kernel), List.forall_mem_cons.mpr ⟨
  s_bipush (show decode (cod 127) 266 = .ok (.bipush 21, 2) by decide +kernel) rfl, List.forall_mem_cons.mpr ⟨
  s_bipush (show decode (cod 127) 268 = .ok (.bipush 30, 2) by decide +kernel) rfl, List.forall_mem_cons.mpr ⟨
  s_iastore (show decode (cod 127) 270 = .ok (.iastore, 1) by decide +kernel), List.forall_mem_cons.mpr ⟨
  s_dup (show decode (cod 127) 271 = .ok (.dup, 1) by decide +kernel), List.forall_mem_cons.mpr ⟨
  s_bipush (show decode (cod 127) 272 = .ok (.bipush 22, 2) by decide +kernel) rfl, List.forall_mem_cons.mpr ⟨
  s_bipush (show decode (cod 127) 274 = .ok (.bipush 15, 2) by decide +kernel) rfl, List.forall_mem_cons.mpr ⟨
  s_iastore (show decode (cod 127) 276 = .ok (.iastore, 1) by decide +kernel), List.forall_mem_cons.mpr ⟨
  s_dup (show decode (cod 127) 277 = .ok (.dup, 1) by decide +kernel), List.forall_mem_cons.mpr ⟨
  s_bipush (show decode (cod 127) 278 = .ok (.bipush 23, 2) by decide +kernel) rfl, List.forall_mem_cons.mpr ⟨
  s_iconst (show decode (cod 127) 280 = .ok (.iconst 0, 1) by decide +kernel) rfl, List.forall_mem_cons.mpr ⟨
  s_iastore (show decode (cod 127) 281 = .ok (.iastore, 1) by decide +kernel), List.forall_mem_cons.mpr ⟨
  s_dup (show decode (cod 127) 282 = .ok (.dup, 1) by decide +kernel), List.forall_mem_cons.mpr ⟨
  s_bipush (show decode (cod 127) 283 = .ok (.bipush 24, 2) by decide +kernel) rfl, List.forall_mem_cons.mpr ⟨
  s_iconst (show decode (cod 127) 285 = .ok (.iconst 0, 1) by decide +kernel) rfl, List.forall_mem_cons.mpr ⟨
  s_iastore (show decode (cod 127) 286 = .ok (.iastore, 1) by decide +kernel), List.forall_mem_cons.mpr ⟨
  s_dup (show decode (cod 127) 287 = .ok (.dup, 1) by decide +kernel), List.forall_mem_cons.mpr ⟨
  s_bipush (show decode (cod 127) 288 = .ok (.bipush 25, 2) by decide +kernel) rfl, List.forall_mem_cons.mpr ⟨
  s_bipush (show decode (cod 127) 290 = .ok (.bipush (-2), 2) by decide +kernel) rfl, List.forall_mem_cons.mpr ⟨
  s_iastore (show decode (cod 127) 292 = .ok (.iastore, 1) by decide +kernel), List.forall_mem_cons.mpr ⟨
  s_dup (show decode (cod 127) 293 = .ok (.dup, 1) by decide +kernel), List.forall_mem_cons.mpr ⟨
  s_bipush (show decode (cod 127) 294 = .ok (.bipush 26, 2) by decide +kernel) rfl, List.forall_mem_cons.mpr ⟨
  s_iconst (show decode (cod 127) 296 = .ok (.iconst 0, 1) by decide +kernel) rfl, List.forall_mem_cons.mpr ⟨
  s_iastore (show decode (cod 127) 297 = .ok (.iastore, 1) by decide +kernel), List.forall_mem_cons.mpr ⟨
  s_dup (show decode (cod 127) 298 = .ok (.dup, 1) by decide +kernel), List.forall_mem_cons.mpr ⟨
  s_bipush (show decode (cod 127) 299 = .ok (.bipush 27, 2) by decide +kernel) rfl, List.forall_mem_cons.mpr ⟨
  s_bipush (show decode (cod 127) 301 = .ok (.bipush 20, 2) by decide +kernel) rfl, List.forall_mem_cons.mpr ⟨
  s_iastore (show decode (cod 127) 303 = .ok (.iastore, 1) by decide +kernel), List.forall_mem_cons.mpr ⟨
  s_dup (show decode (cod 127) 304 = .ok (.dup, 1) by decide +kernel), List.forall_mem_cons.mpr ⟨
  s_bipush (show decode (cod 127) 305 = .ok (.bipush 28, 2) by decide +kernel) rfl, List.forall_mem_cons.mpr ⟨
  s_bipush (show decode (cod 127) 307 = .ok (.bipush 30, 2) by decide +kernel) rfl, List.forall_mem_cons.mpr ⟨
  s_iastore (show decode (cod 127) 309 = .ok (.iastore, 1) by decide +kernel), List.forall_mem_cons.mpr ⟨
  s_dup (show decode (cod 127) 310 = .ok (.dup, 1) by decide +kernel), List.forall_mem_cons.mpr ⟨
  s_bipush (show decode (cod 127) 311 = .ok (.bipush 29, 2) by decide +kernel) rfl, List.forall_mem_cons.mpr ⟨
  s_bipush (show decode (cod 127) 313 = .ok (.bipush 12, 2) by decide +kernel) rfl, List.forall_mem_cons.mpr ⟨
  s_iastore (show decode (cod 127) 315 = .ok (.iastore, 1) by decide +kernel), List.forall_mem_cons.mpr ⟨
  s_putR (show decode (cod 127) 316 = .ok (.putfield 67, 3) by decide +kernel) wd_626 (Or.inl rfl) (Or.inr ⟨rfl, rfl, rfl⟩) rfl, List.forall_mem_cons.mpr ⟨
  s_aload_n (k := 0) (show decode (cod 127) 319 = .ok (.aload_n 0, 1) by decide +kernel), List.forall_mem_cons.mpr ⟨
  s_bipush (show decode (cod 127) 320 = .ok (.bipush 24, 2) by decide +kernel) rfl, List.forall_mem_cons.mpr ⟨
  s_newarr (show decode (cod 127) 322 = .ok (.newarray .int, 2) by decide +kernel) (by decide) rfl wd_6, fun _ h => by cases h⟩⟩⟩⟩⟩⟩⟩⟩⟩⟩⟩⟩⟩⟩⟩⟩⟩⟩⟩⟩⟩⟩⟩⟩⟩⟩⟩⟩⟩⟩⟩⟩⟩⟩⟩⟩⟩⟩⟩⟩
set_option maxRecDepth 100000 in
set_option maxHeartbeats 4000000 in
theorem si127_5 (X : CX) (l : Launch) : ∀ q ∈ ([(324, iW 327 (ptR 74)), (327, iP 328 (fAld 0)), (328, iP 330 (fK (.inl 24))), (330, iW 332 (wNa 20)), (332, iW 335 (ptR 75)), (335, iP 336 (fAld 0)), (336, iP 337 (fK (.inl 3))), (337, iW 339 (wNa 20)), (339, iW 342 (ptR 82)), (342, iP 343 (fAld 0)), (343, iP 346 (fK (.inl 220))), (346, iW 348 (wNa 20)), (348, iW 351 (ptR 84)), (351, iP 352 (fAld 0)), (352, iP 355 (fK (.inl 220))), (355, iW 357 (wNa 20)), (357, iW 360 (ptR 85)), (360, iP 361 (fAld 0)), (361, iP 364 (fK (.inl 220))), (364, iW 366 (wNa 20)), (366, iW 369 (ptR 86)), (369, iP 370 (fAld 0)), (370, iP 373 (fK (.inl 220))), (373, iW 375 (wNa 21)), (375, iW 378 (ptR 87)), (378, iP 379 (fAld 0)), (379, iP 382 (fK (.inl 220))), (382, iW 384 (wNa 21)), (384, iW 387 (ptR 88)), (387, iP 388 (fAld 0)), (388, iP 391 (fK (.inl 1540))), (391, iW 393 (wNa 20)), (393, iW 396 (ptR 89)), (396, iP 397 (fK (.inl 0))), (397, iP 398 (fIst 1)), (398, iP 399 (fK (.inl 0))), (399, iP 400 (fIst 2)), (400, iP 401 (fIld 2)), (401, iP 404 (fK (.inl 7776))), (404, iB 407 508 (b2 (fun x y => decide (y ≤ x))))] : List (Nat × AS)), SI X l 127 q.1 q.2 := List.forall_mem_cons.mpr ⟨
  s_putR (show decode (cod 127) 324 = .ok (.putfield 70, 3) by decide +kernel) wd_627 (Or.inl rfl) (Or.inr ⟨rfl, rfl, rfl⟩) rfl, List.forall_mem_cons.mpr ⟨
  s_aload_n (k := 0) (show decode (cod 127) 327 = .ok (.aload_n 0, 1) by decide +kernel), List.forall_mem_cons.mpr ⟨
  s_bipush (show decode (cod 127) 328 = .ok (.bipush 24, 2) by decide +kernel) rfl, List.forall_mem_cons.mpr ⟨
  s_newarr (show decode (cod 127) 330 = .ok (.newarray .int, 2) by decide +kernel) (by decide) rfl wd_6, List.forall_mem_cons.mpr ⟨
  s_putR (show decode (cod 127) 332 = .ok (.putfield 73, 3) by decide +kernel) wd_628 (Or.inl rfl) (Or.inr ⟨rfl, rfl, rfl⟩) rfl, List.forall_mem_cons.mpr ⟨
  s_aload_n (k := 0) (show decode (cod 127) 335 = .ok (.aload_n 0, 1) by decide +kernel), List.forall_mem_cons.mpr ⟨
  s_iconst (show decode (cod 127) 336 = .ok (.iconst 3, 1) by decide +kernel) rfl, List.forall_mem_cons.mpr ⟨
  s_newarr (show decode (cod 127) 337 = .ok (.newarray .int, 2) by decide +kernel) (by decide) rfl wd_6, List.forall_mem_cons.mpr ⟨
  s_putR (show decode (cod 127) 339 = .ok (.putfield 76, 3) by decide +kernel) wd_629 (Or.inl rfl) (Or.inr ⟨rfl, rfl, rfl⟩) rfl, List.forall_mem_cons.mpr ⟨
  s_aload_n (k := 0) (show decode (cod 127) 342 = .ok (.aload_n 0, 1) by decide +kernel), List.forall_mem_cons.mpr ⟨
  s_sipush (show decode (cod 127) 343 = .ok (.sipush 220, 3) by decide +kernel) rfl, List.forall_mem_cons.mpr ⟨
  s_newarr (show decode (cod 127) 346 = .ok (.newarray .int, 2) by decide +kernel) (by decide) rfl wd_6, List.forall_mem_cons.mpr ⟨
  s_putR (show decode (cod 127) 348 = .ok (.putfield 79, 3) by decide +kernel) wd_630 (Or.inl rfl) (Or.inr ⟨rfl, rfl, rfl⟩) rfl, List.forall_mem_cons.mpr ⟨
  s_aload_n (k := 0) (show decode (cod 127) 351 = .ok (.aload_n 0, 1) by decide +kernel), List.forall_mem_cons.mpr ⟨
  s_sipush (show decode (cod 127) 352 = .ok (.sipush 220, 3) by decide +kernel) rfl, List.forall_mem_cons.mpr ⟨
  s_newarr (show decode (cod 127) 355 = .ok (.newarray .int, 2) by decide +kernel) (by decide) rfl wd_6, List.forall_mem_cons.mpr ⟨
  s_putR (show decode (cod 127) 357 = .ok (.putfield 82, 3) by decide +kernel) wd_631 (Or.inl rfl) (Or.inr ⟨rfl, rfl, rfl⟩) rfl, List.forall_mem_cons.mpr ⟨
  s_aload_n (k := 0) (show decode (cod 127) 360 = .ok (.aload_n 0, 1) by decide +kernel), List.forall_mem_cons.mpr ⟨
  s_sipush (show decode (cod 127) 361 = .ok (.sipush 220, 3) by decide +kernel) rfl, List.forall_mem_cons.mpr ⟨
  s_newarr (show decode (cod 127) 364 = .ok (.newarray .int, 2) by decide +kernel) (by decide) rfl wd_6, List.forall_mem_cons.mpr ⟨
  s_putR (show decode (cod 127) 366 = .ok (.putfield 85, 3) by decide +kernel) wd_632 (Or.inl rfl) (Or.inr ⟨rfl, rfl, rfl⟩) rfl, List.forall_mem_cons.mpr ⟨
  s_aload_n (k := 0) (show decode (cod 127) 369 = .ok (.aload_n 0, 1) by decide +kernel), List.forall_mem_cons.mpr ⟨
  s_sipush (show decode (cod 127) 370 = .ok (.sipush 220, 3) by decide +kernel) rfl, List.forall_mem_cons.mpr ⟨
  s_newarr (show decode (cod 127) 373 = .ok (.newarray .long, 2) by decide +kernel) (by decide) rfl wd_44, List.forall_mem_cons.mpr ⟨
  s_putR (show decode (cod 127) 375 = .ok (.putfield 88, 3) by decide +kernel) wd_633 (Or.inl rfl) (Or.inr ⟨rfl, rfl, rfl⟩) rfl, List.forall_mem_cons.mpr ⟨
  s_aload_n (k := 0) (show decode (cod 127) 378 = .ok (.aload_n 0, 1) by decide +kernel), List.forall_mem_cons.mpr ⟨
  s_sipush (show decode (cod 127) 379 = .ok (.sipush 220, 3) by decide +kernel) rfl, List.forall_mem_cons.mpr ⟨
  s_newarr (show decode (cod 127) 382 = .ok (.newarray .long, 2) by decide +kernel) (by decide) rfl wd_44, List.forall_mem_cons.mpr ⟨
  s_putR (show decode (cod 127) 384 = .ok (.putfield 91, 3) by decide +kernel) wd_634 (Or.inl rfl) (Or.inr ⟨rfl, rfl, rfl⟩) rfl, List.forall_mem_cons.mpr ⟨
  s_aload_n (k := 0) (show decode (cod 127) 387 = .ok (.aload_n 0, 1) by decide +kernel), List.forall_mem_cons.mpr ⟨
  s_sipush (show decode (cod 127) 388 = .ok (.sipush 1540, 3) by decide +kernel) rfl, List.forall_mem_cons.mpr ⟨
  s_newarr (show decode (cod 127) 391 = .ok (.newarray .int, 2) by decide +kernel) (by decide) rfl wd_6, List.forall_mem_cons.mpr ⟨
  s_putR (show decode (cod 127) 393 = .ok (.putfield 94, 3) by decide +kernel) wd_635 (Or.inl rfl) (Or.inr ⟨rfl, rfl, rfl⟩) rfl, List.forall_mem_cons.mpr ⟨
  s_iconst (show decode (cod 127) 396 = .ok (.iconst 0, 1) by decide +kernel) rfl, List.forall_mem_cons.mpr ⟨
  s_istore_n (k := 1) (show decode (cod 127) 397 = .ok (.istore_n 1, 1) by decide +kernel), List.forall_mem_cons.mpr ⟨
  s_iconst (show decode (cod 127) 398 = .ok (.iconst 0, 1) by decide +kernel) rfl, List.forall_mem_cons.mpr ⟨
  s_istore_n (k := 2) (show decode (cod 127) 399 = .ok (.istore_n 2, 1) by decide +kernel), List.forall_mem_cons.mpr ⟨
  s_iload_n (k := 2) (show decode (cod 127) 400 = .ok (.iload_n 2, 1) by decide +kernel), List.forall_mem_cons.mpr ⟨
  s_sipush (show decode (cod 127) 401 = .ok (.sipush 7776, 3) by decide +kernel) rfl, List.forall_mem_cons.mpr ⟨
  s_icmpge (show decode (cod 127) 404 = .ok (.if_icmp .ge 104, 3) by decide +kernel) (by decide), fun _ h => by cases h⟩⟩⟩⟩⟩⟩⟩⟩⟩⟩⟩⟩⟩⟩⟩⟩⟩⟩⟩⟩⟩⟩⟩⟩⟩⟩⟩⟩⟩⟩⟩⟩⟩⟩⟩⟩⟩⟩⟩⟩
set_option maxRecDepth 100000 in
set_option maxHeartbeats 4000000 in
theorem si127_6 (X : CX) (l : Launch) : ∀ q ∈ ([(407, iP 408 (fIld 2)), (408, iP 409 (fIst 3)), (409, iP 410 (fK (.inl 0))), (410, iP 412 (fIst 4)), (412, iP 413 (fK (.inl 0))), (413, iP 415 (fIst 5)), (415, iP 417 (fIld 5)), (417, iP 418 (fK (.inl 5))), (418, iB 421 441 (b2 (fun x y => decide (y ≤ x)))), (421, iP 423 (fIld 4)), (423, iP 424 (fIld 3)), (424, iP 426 (fK (.inl 6))), (426, iRI 427 (q2I (fun x y => x - x / y * y))), (427, iP 428 (f2I (fun x y => x + y))), (428, iP 430 (fIst 4)), (430, iP 431 (fIld 3)), (431, iP 433 (fK (.inl 6))), (433, iRI 434 (q2I (fun x y => x / y))), (434, iP 435 (fIst 3)), (435, iP 438 (fInc 5 1)), (438, iP 415 fGo), (441, iP 442 (fAld 0)), (442, iRR 445 (gtR 62)), (445, iP 446 (fIld 2)), (446, iP 447 (fK (.inl (-1)))), (447, iW 448 wAI), (448, iP 450 (fIld 4)), (450, iP 452 (fK (.inl 6))), (452, iB 455 502 (b2 (fun x y => decide (y ≤ x)))), (455, iP 456 (fAld 0)), (456, iRR 459 (gtR 62)), (459, iP 460 (fIld 2)), (460, iP 461 (fIld 1)), (461, iW 462 wAI), (462, iP 463 (fIld 2)), (463, iP 464 (fIst 3)), (464, iP 465 (fK (.inl 0))), (465, iP 467 (fIst 5)), (467, iP 469 (fIld 5)), (469, iP 470 (fK (.inl 5)))] : List (Nat × AS)), SI X l 127 q.1 q.2 := List.forall_mem_cons.mpr ⟨
  s_iload_n (k := 2) (show decode (cod 127) 407 = .ok (.iload_n 2, 1) by decide +kernel), List.forall_mem_cons.mpr ⟨
  s_istore_n (k := 3) (show decode (cod 127) 408 = .ok (.istore_n 3, 1) by decide +kernel), List.forall_mem_cons.mpr ⟨
  s_iconst (show decode (cod 127) 409 = .ok (.iconst 0, 1) by decide +kernel) rfl, List.forall_mem_cons.mpr ⟨
  s_istore (k := 4) (show decode (cod 127) 410 = .ok (.istore 4, 2) by decide +kernel), List.forall_mem_cons.mpr ⟨
  s_iconst (show decode (cod 127) 412 = .ok (.iconst 0, 1) by decide +kernel) rfl, List.forall_mem_cons.mpr ⟨
  s_istore (k := 5) (show decode (cod 127) 413 = .ok (.istore 5, 2) by decide +kernel), List.forall_mem_cons.mpr ⟨
  s_iload (k := 5) (show decode (cod 127) 415 = .ok (.iload 5, 2) by decide +kernel), List.forall_mem_cons.mpr ⟨
  s_iconst (show decode (cod 127) 417 = .ok (.iconst 5, 1) by decide +kernel) rfl, List.forall_mem_cons.mpr ⟨
  s_icmpge (show decode (cod 127) 418 = .ok (.if_icmp .ge 23, 3) by decide +kernel) (by decide), List.forall_mem_cons.mpr ⟨
  s_iload (k := 4) (show decode (cod 127) 421 = .ok (.iload 4, 2) by decide +kernel), List.forall_mem_cons.mpr ⟨
  s_iload_n (k := 3) (show decode (cod 127) 423 = .ok (.iload_n 3, 1) by decide +kernel), List.forall_mem_cons.mpr ⟨
  s_bipush (show decode (cod 127) 424 = .ok (.bipush 6, 2) by decide +kernel) rfl, List.forall_mem_cons.mpr ⟨
  s_irem (show decode (cod 127) 426 = .ok (.irem, 1) by decide +kernel), List.forall_mem_cons.mpr ⟨
  s_iadd (show decode (cod 127) 427 = .ok (.iadd, 1) by decide +kernel), List.forall_mem_cons.mpr ⟨
  s_istore (k := 4) (show decode (cod 127) 428 = .ok (.istore 4, 2) by decide +kernel), List.forall_mem_cons.mpr ⟨
  s_iload_n (k := 3) (show decode (cod 127) 430 = .ok (.iload_n 3, 1) by decide +kernel), List.forall_mem_cons.mpr ⟨
  s_bipush (show decode (cod 127) 431 = .ok (.bipush 6, 2) by decide +kernel) rfl, List.forall_mem_cons.mpr ⟨
  s_idiv (show decode (cod 127) 433 = .ok (.idiv, 1) by decide +kernel), List.forall_mem_cons.mpr ⟨
  s_istore_n (k := 3) (show decode (cod 127) 434 = .ok (.istore_n 3, 1) by decide +kernel), List.forall_mem_cons.mpr ⟨
  s_iinc (show decode (cod 127) 435 = .ok (.iinc 5 1, 3) by decide +kernel) rfl, List.forall_mem_cons.mpr ⟨
  s_goto (show decode (cod 127) 438 = .ok (.goto (-23), 3) by decide +kernel) (by decide), List.forall_mem_cons.mpr ⟨
  s_aload_n (k := 0) (show decode (cod 127) 441 = .ok (.aload_n 0, 1) by decide +kernel), List.forall_mem_cons.mpr ⟨
  s_getR (show decode (cod 127) 442 = .ok (.getfield 38, 3) by decide +kernel) wd_616 (Or.inl rfl) rfl, List.forall_mem_cons.mpr ⟨
  s_iload_n (k := 2) (show decode (cod 127) 445 = .ok (.iload_n 2, 1) by decide +kernel), List.forall_mem_cons.mpr ⟨
  s_iconst (show decode (cod 127) 446 = .ok (.iconst (-1), 1) by decide +kernel) rfl, List.forall_mem_cons.mpr ⟨
  s_iastore (show decode (cod 127) 447 = .ok (.iastore, 1) by decide +kernel), List.forall_mem_cons.mpr ⟨
  s_iload (k := 4) (show decode (cod 127) 448 = .ok (.iload 4, 2) by decide +kernel), List.forall_mem_cons.mpr ⟨
  s_bipush (show decode (cod 127) 450 = .ok (.bipush 6, 2) by decide +kernel) rfl, List.forall_mem_cons.mpr ⟨
  s_icmpge (show decode (cod 127) 452 = .ok (.if_icmp .ge 50, 3) by decide +kernel) (by decide), List.forall_mem_cons.mpr ⟨
  s_aload_n (k := 0) (show decode (cod 127) 455 = .ok (.aload_n 0, 1) by decide +kernel), List.forall_mem_cons.mpr ⟨
  s_getR (show decode (cod 127) 456 = .ok (.getfield 38, 3) by decide +kernel) wd_616 (Or.inl rfl) rfl, List.forall_mem_cons.mpr ⟨
  s_iload_n (k := 2) (show decode (cod 127) 459 = .ok (.iload_n 2, 1) by decide +kernel), List.forall_mem_cons.mpr ⟨
  s_iload_n (k := 1) (show decode (cod 127) 460 = .ok (.iload_n 1, 1) by decide +kernel), List.forall_mem_cons.mpr ⟨
  s_iastore (show decode (cod 127) 461 = .ok (.iastore, 1) by decide +kernel), List.forall_mem_cons.mpr ⟨
  s_iload_n (k := 2) (show decode (cod 127) 462 = .ok (.iload_n 2, 1) by decide +kernel), List.forall_mem_cons.mpr ⟨
  s_istore_n (k := 3) (show decode (cod 127) 463 = .ok (.istore_n 3, 1) by decide +kernel), List.forall_mem_cons.mpr ⟨
  s_iconst (show decode (cod 127) 464 = .ok (.iconst 0, 1) by decide +kernel) rfl, List.forall_mem_cons.mpr ⟨
  s_istore (k := 5) (show decode (cod 127) 465 = .ok (.istore 5, 2) by decide +kernel), List.forall_mem_cons.mpr ⟨
  s_iload (k := 5) (show decode (cod 127) 467 = .ok (.iload 5, 2) by decide +kernel), List.forall_mem_cons.mpr ⟨
  s_iconst (show decode (cod 127) 469 = .ok (.iconst 5, 1) by decide +kernel) rfl, fun _ h => by cases h⟩⟩⟩⟩⟩⟩⟩⟩⟩⟩⟩⟩⟩⟩⟩⟩⟩⟩⟩⟩⟩⟩⟩⟩⟩⟩⟩⟩⟩⟩⟩⟩⟩⟩⟩⟩⟩⟩⟩⟩
set_option maxRecDepth 100000 in
set_option maxHeartbeats 4000000 in
theorem si127_7 (X : CX) (l : Launch) : ∀ q ∈ ([(470, iB 473 499 (b2 (fun x y => decide (y ≤ x)))), (473, iP 474 (fAld 0)), (474, iRR 477 (gtR 61)), (477, iP 478 (fK (.inl 5))), (478, iP 479 (fIld 1)), (479, iP 480 (f2I (fun x y => x * y))), (480, iP 482 (fIld 5)), (482, iP 483 (f2I (fun x y => x + y))), (483, iP 484 (fIld 3)), (484, iP 486 (fK (.inl 6))), (486, iRI 487 (q2I (fun x y => x - x / y * y))), (487, iW 488 wAI), (488, iP 489 (fIld 3)), (489, iP 491 (fK (.inl 6))), (491, iRI 492 (q2I (fun x y => x / y))), (492, iP 493 (fIst 3)), (493, iP 496 (fInc 5 1)), (496, iP 467 fGo), (499, iP 502 (fInc 1 1)), (502, iP 505 (fInc 2 1)), (505, iP 400 fGo), (508, iRet rV)] : List (Nat × AS)), SI X l 127 q.1 q.2 := List.forall_mem_cons.mpr ⟨
  s_icmpge (show decode (cod 127) 470 = .ok (.if_icmp .ge 29, 3) by decide +kernel) (by decide), List.forall_mem_cons.mpr ⟨
  s_aload_n (k := 0) (show decode (cod 127) 473 = .ok (.aload_n 0, 1) by decide +kernel), List.forall_mem_cons.mpr ⟨
  s_getR (show decode (cod 127) 474 = .ok (.getfield 35, 3) by decide +kernel) wd_615 (Or.inl rfl) rfl, List.forall_mem_cons.mpr ⟨
  s_iconst (show decode (cod 127) 477 = .ok (.iconst 5, 1) by decide +kernel) rfl, List.forall_mem_cons.mpr ⟨
  s_iload_n (k := 1) (show decode (cod 127) 478 = .ok (.iload_n 1, 1) by decide +kernel), List.forall_mem_cons.mpr ⟨
  s_imul (show decode (cod 127) 479 = .ok (.imul, 1) by decide +kernel), List.forall_mem_cons.mpr ⟨
  s_iload (k := 5) (show decode (cod 127) 480 = .ok (.iload 5, 2) by decide +kernel), List.forall_mem_cons.mpr ⟨
  s_iadd (show decode (cod 127) 482 = .ok (.iadd, 1) by decide +kernel), List.forall_mem_cons.mpr ⟨
  s_iload_n (k := 3) (show decode (cod 127) 483 = .ok (.iload_n 3, 1) by decide +kernel), List.forall_mem_cons.mpr ⟨
  s_bipush (show decode (cod 127) 484 = .ok (.bipush 6, 2) by decide +kernel) rfl, List.forall_mem_cons.mpr ⟨
  s_irem (show decode (cod 127) 486 = .ok (.irem, 1) by decide +kernel), List.forall_mem_cons.mpr ⟨
  s_iastore (show decode (cod 127) 487 = .ok (.iastore, 1) by decide +kernel), List.forall_mem_cons.mpr ⟨
  s_iload_n (k := 3) (show decode (cod 127) 488 = .ok (.iload_n 3, 1) by decide +kernel), List.forall_mem_cons.mpr ⟨
  s_bipush (show decode (cod 127) 489 = .ok (.bipush 6, 2) by decide +kernel) rfl, List.forall_mem_cons.mpr ⟨
  s_idiv (show decode (cod 127) 491 = .ok (.idiv, 1) by decide +kernel), List.forall_mem_cons.mpr ⟨
  s_istore_n (k := 3) (show decode (cod 127) 492 = .ok (.istore_n 3, 1) by decide +kernel), List.forall_mem_cons.mpr ⟨
  s_iinc (show decode (cod 127) 493 = .ok (.iinc 5 1, 3) by decide +kernel) rfl, List.forall_mem_cons.mpr ⟨
  s_goto (show decode (cod 127) 496 = .ok (.goto (-29), 3) by decide +kernel) (by decide), List.forall_mem_cons.mpr ⟨
  s_iinc (show decode (cod 127) 499 = .ok (.iinc 1 1, 3) by decide +kernel) rfl, List.forall_mem_cons.mpr ⟨
  s_iinc (show decode (cod 127) 502 = .ok (.iinc 2 1, 3) by decide +kernel) rfl, List.forall_mem_cons.mpr ⟨
  s_goto (show decode (cod 127) 505 = .ok (.goto (-105), 3) by decide +kernel) (by decide), List.forall_mem_cons.mpr ⟨
  s_ret (show decode (cod 127) 508 = .ok (.return_, 1) by decide +kernel) rV_ok (fun h => by cases h), fun _ h => by cases h⟩⟩⟩⟩⟩⟩⟩⟩⟩⟩⟩⟩⟩⟩⟩⟩⟩⟩⟩⟩⟩⟩
set_option maxRecDepth 100000 in
theorem si127 (X : CX) (l : Launch) : ∀ q ∈ pt127, SI X l 127 q.1 q.2 := (List.forall_mem_append (l₁ := _) (l₂ := _)).mpr ⟨si127_0 X l, (List.forall_mem_append (l₁ := _) (l₂ := _)).mpr ⟨si127_1 X l, (List.forall_mem_append (l₁ := _) (l₂ := _)).mpr ⟨si127_2 X l, (List.forall_mem_append (l₁ := _) (l₂ := _)).mpr ⟨si127_3 X l, (List.forall_mem_append (l₁ := _) (l₂ := _)).mpr ⟨si127_4 X l, (List.forall_mem_append (l₁ := _) (l₂ := _)).mpr ⟨si127_5 X l, (List.forall_mem_append (l₁ := _) (l₂ := _)).mpr ⟨si127_6 X l, si127_7 X l⟩⟩⟩⟩⟩⟩⟩
set_option maxRecDepth 100000 in
set_option maxHeartbeats 4000000 in
theorem si128_0 (X : CX) (l : Launch) : ∀ q ∈ ([(0, iP 1 (fAld 0)), (1, iRI 4 (gtI 50)), (4, iP 6 (fK (.inl 8))), (6, iB 9 12 (b2 (fun x y => decide (x ≠ y)))), (9, iP 11 (fK (.inl (-1000003)))), (11, iRet rI), (12, iP 13 (fAld 0)), (13, iRR 16 (gtR 51)), (16, iP 17 (fAld 0)), (17, iRI 20 (gtI 50)), (20, iP 21 (fK (.inl 0))), (21, iW 22 wAI), (22, iP 23 (fAld 0)), (23, iP 24 fDup), (24, iRI 27 (gtI 50)), (27, iP 28 (fK (.inl 1))), (28, iP 29 (f2I (fun x y => x + y))), (29, iW 32 (ptI 50)), (32, iP 33 (fAld 0)), (33, iP 34 (fK (.inl 0))), (34, iW 37 (ptZ 60)), (37, iP 38 (fAld 0)), (38, iRI 41 (gtI 50)), (41, iP 42 (fK (.inl 1))), (42, iP 43 (f2I (fun x y => x - y))), (43, iRet rI)] : List (Nat × AS)), SI X l 128 q.1 q.2 := List.forall_mem_cons.mpr ⟨
  s_aload_n (k := 0) (show decode (cod 128) 0 = .ok (.aload_n 0, 1) by decide +kernel), List.forall_mem_cons.mpr ⟨
  s_getI (show decode (cod 128) 1 = .ok (.getfield 97, 3) by decide +kernel) wd_636 (Or.inl rfl) (Or.inl rfl), List.forall_mem_cons.mpr ⟨
  s_bipush (show decode (cod 128) 4 = .ok (.bipush 8, 2) by decide +kernel) rfl, List.forall_mem_cons.mpr ⟨
  s_icmpne (show decode (cod 128) 6 = .ok (.if_icmp .ne 6, 3) by decide +kernel) (by decide), List.forall_mem_cons.mpr ⟨
  s_ldc (show decode (cod 128) 9 = .ok (.ldc 104, 2) by decide +kernel) wd_637, List.forall_mem_cons.mpr ⟨
  s_ret (show decode (cod 128) 11 = .ok (.ireturn, 1) by decide +kernel) rI_ok (fun h => by cases h), List.forall_mem_cons.mpr ⟨
  s_aload_n (k := 0) (show decode (cod 128) 12 = .ok (.aload_n 0, 1) by decide +kernel), List.forall_mem_cons.mpr ⟨
  s_getR (show decode (cod 128) 13 = .ok (.getfield 7, 3) by decide +kernel) wd_607 (Or.inl rfl) rfl, List.forall_mem_cons.mpr ⟨
  s_aload_n (k := 0) (show decode (cod 128) 16 = .ok (.aload_n 0, 1) by decide +kernel), List.forall_mem_cons.mpr ⟨
  s_getI (show decode (cod 128) 17 = .ok (.getfield 97, 3) by decide +kernel) wd_636 (Or.inl rfl) (Or.inl rfl), List.forall_mem_cons.mpr ⟨
  s_iconst (show decode (cod 128) 20 = .ok (.iconst 0, 1) by decide +kernel) rfl, List.forall_mem_cons.mpr ⟨
  s_iastore (show decode (cod 128) 21 = .ok (.iastore, 1) by decide +kernel), List.forall_mem_cons.mpr ⟨
  s_aload_n (k := 0) (show decode (cod 128) 22 = .ok (.aload_n 0, 1) by decide +kernel), List.forall_mem_cons.mpr ⟨
  s_dup (show decode (cod 128) 23 = .ok (.dup, 1) by decide +kernel), List.forall_mem_cons.mpr ⟨
  s_getI (show decode (cod 128) 24 = .ok (.getfield 97, 3) by decide +kernel) wd_636 (Or.inl rfl) (Or.inl rfl), List.forall_mem_cons.mpr ⟨
  s_iconst (show decode (cod 128) 27 = .ok (.iconst 1, 1) by decide +kernel) rfl, List.forall_mem_cons.mpr ⟨
  s_iadd (show decode (cod 128) 28 = .ok (.iadd, 1) by decide +kernel), List.forall_mem_cons.mpr ⟨
  s_putI (show decode (cod 128) 29 = .ok (.putfield 97, 3) by decide +kernel) wd_636 (Or.inl rfl) (Or.inl rfl) rfl, List.forall_mem_cons.mpr ⟨
  s_aload_n (k := 0) (show decode (cod 128) 32 = .ok (.aload_n 0, 1) by decide +kernel), List.forall_mem_cons.mpr ⟨
  s_iconst (show decode (cod 128) 33 = .ok (.iconst 0, 1) by decide +kernel) rfl, List.forall_mem_cons.mpr ⟨
  s_putZ (show decode (cod 128) 34 = .ok (.putfield 105, 3) by decide +kernel) wd_638 (Or.inl rfl) (Or.inl rfl) rfl, List.forall_mem_cons.mpr ⟨
  s_aload_n (k := 0) (show decode (cod 128) 37 = .ok (.aload_n 0, 1) by decide +kernel), List.forall_mem_cons.mpr ⟨
  s_getI (show decode (cod 128) 38 = .ok (.getfield 97, 3) by decide +kernel) wd_636 (Or.inl rfl) (Or.inl rfl), List.forall_mem_cons.mpr ⟨
  s_iconst (show decode (cod 128) 41 = .ok (.iconst 1, 1) by decide +kernel) rfl, List.forall_mem_cons.mpr ⟨
  s_isub (show decode (cod 128) 42 = .ok (.isub, 1) by decide +kernel), List.forall_mem_cons.mpr ⟨
  s_ret (show decode (cod 128) 43 = .ok (.ireturn, 1) by decide +kernel) rI_ok (fun h => by cases h), fun _ h => by cases h⟩⟩⟩⟩⟩⟩⟩⟩⟩⟩⟩⟩⟩⟩⟩⟩⟩⟩⟩⟩⟩⟩⟩⟩⟩⟩
set_option maxRecDepth 100000 in
theorem si128 (X : CX) (l : Launch) : ∀ q ∈ pt128, SI X l 128 q.1 q.2 :=  si128_0 X l
set_option maxRecDepth 100000 in
set_option maxHeartbeats 4000000 in
theorem si129_0 (X : CX) (l : Launch) : ∀ q ∈ ([(0, iP 1 (fIld 1)), (1, iP 2 fI2l), (2, iP 3 (fK (.inr (.inl 0)))), (3, iP 4 (fK (.inr (.inl 1)))), (4, iC 7 130 6 3 1), (7, iB 10 86 (b1 (fun x => decide (x = 0)))), (10, iP 11 (fIld 2)), (11, iP 12 fI2l), (12, iP 13 (fK (.inr (.inl 0)))), (13, iP 16 (fK (.inr (.inl 2)))), (16, iC 19 130 6 3 1), (19, iB 22 86 (b1 (fun x => decide (x = 0)))), (22, iP 23 (fIld 3)), (23, iP 24 fI2l), (24, iP 25 (fK (.inr (.inl 0)))), (25, iP 28 (fK (.inr (.inl 2)))), (28, iC 31 130 6 3 1), (31, iB 34 86 (b1 (fun x => decide (x = 0)))), (34, iP 36 (fIld 4)), (36, iP 37 fI2l), (37, iP 38 (fK (.inr (.inl 0)))), (38, iP 41 (fK (.inr (.inl 2)))), (41, iC 44 130 6 3 1), (44, iB 47 86 (b1 (fun x => decide (x = 0)))), (47, iP 49 (fIld 5)), (49, iP 50 fI2l), (50, iP 51 (fK (.inr (.inl 0)))), (51, iP 54 (fK (.inr (.inl 2)))), (54, iC 57 130 6 3 1), (57, iB 60 86 (b1 (fun x => decide (x = 0)))), (60, iP 62 (fIld 6)), (62, iP 63 fI2l), (63, iP 64 (fK (.inr (.inl 0)))), (64, iP 67 (fK (.inr (.inl 2)))), (67, iC 70 130 6 3 1), (70, iB 73 86 (b1 (fun x => decide (x = 0)))), (73, iP 75 (fIld 7)), (75, iP 76 fI2l), (76, iP 77 (fK (.inr (.inl 0)))), (77, iP 80 (fK (.inr (.inl 2))))] : List (Nat × AS)), SI X l 129 q.1 q.2 := List.forall_mem_cons.mpr ⟨
  s_iload_n (k := 1) (show decode (cod 129) 0 = .ok (.iload_n 1, 1) by decide +kernel), List.forall_mem_cons.mpr ⟨
  s_i2l (show decode (cod 129) 1 = .ok (.i2l, 1) by decide +kernel), List.forall_mem_cons.mpr ⟨
  s_lconst (show decode (cod 129) 2 = .ok (.lconst 0, 1) by decide +kernel) rfl, List.forall_mem_cons.mpr ⟨
  s_lconst (show decode (cod 129) 3 = .ok (.lconst 1, 1) by decide +kernel) rfl, List.forall_mem_cons.mpr ⟨
  s_invS (show decode (cod 129) 4 = .ok (.invokestatic 100, 3) by decide +kernel) rfl cld_129_130 wd_641 wd_642, List.forall_mem_cons.mpr ⟨
  s_ifeq (show decode (cod 129) 7 = .ok (.ifCond .eq 79, 3) by decide +kernel) (by decide), List.forall_mem_cons.mpr ⟨
  s_iload_n (k := 2) (show decode (cod 129) 10 = .ok (.iload_n 2, 1) by decide +kernel), List.forall_mem_cons.mpr ⟨
  s_i2l (show decode (cod 129) 11 = .ok (.i2l, 1) by decide +kernel), List.forall_mem_cons.mpr ⟨
  s_lconst (show decode (cod 129) 12 = .ok (.lconst 0, 1) by decide +kernel) rfl, List.forall_mem_cons.mpr ⟨
  s_ldc2 (show decode (cod 129) 13 = .ok (.ldc2_w 109, 3) by decide +kernel) wd_643, List.forall_mem_cons.mpr ⟨
  s_invS (show decode (cod 129) 16 = .ok (.invokestatic 100, 3) by decide +kernel) rfl cld_129_130 wd_641 wd_642, List.forall_mem_cons.mpr ⟨
  s_ifeq (show decode (cod 129) 19 = .ok (.ifCond .eq 67, 3) by decide +kernel) (by decide), List.forall_mem_cons.mpr ⟨
  s_iload_n (k := 3) (show decode (cod 129) 22 = .ok (.iload_n 3, 1) by decide +kernel), List.forall_mem_cons.mpr ⟨
  s_i2l (show decode (cod 129) 23 = .ok (.i2l, 1) by decide +kernel), List.forall_mem_cons.mpr ⟨
  s_lconst (show decode (cod 129) 24 = .ok (.lconst 0, 1) by decide +kernel) rfl, List.forall_mem_cons.mpr ⟨
  s_ldc2 (show decode (cod 129) 25 = .ok (.ldc2_w 109, 3) by decide +kernel) wd_643, List.forall_mem_cons.mpr ⟨
  s_invS (show decode (cod 129) 28 = .ok (.invokestatic 100, 3) by decide +kernel) rfl cld_129_130 wd_641 wd_642, List.forall_mem_cons.mpr ⟨
  s_ifeq (show decode (cod 129) 31 = .ok (.ifCond .eq 55, 3) by decide +kernel) (by decide), List.forall_mem_cons.mpr ⟨
  s_iload (k := 4) (show decode (cod 129) 34 = .ok (.iload 4, 2) by decide +kernel), List.forall_mem_cons.mpr ⟨
  s_i2l (show decode (cod 129) 36 = .ok (.i2l, 1) by decide +kernel), List.forall_mem_cons.mpr ⟨
  s_lconst (show decode (cod 129) 37 = .ok (.lconst 0, 1) by decide +kernel) rfl, List.forall_mem_cons.mpr ⟨
  s_ldc2 (show decode (cod 129) 38 = .ok (.ldc2_w 109, 3) by decide +kernel) wd_643, List.forall_mem_cons.mpr ⟨
  s_invS (show decode (cod 129) 41 = .ok (.invokestatic 100, 3) by decide +kernel) rfl cld_129_130 wd_641 wd_642, List.forall_mem_cons.mpr ⟨
  s_ifeq (show decode (cod 129) 44 = .ok (.ifCond .eq 42, 3) by decide +kernel) (by decide), List.forall_mem_cons.mpr ⟨
  s_iload (k := 5) (show decode (cod 129) 47 = .ok (.iload 5, 2) by decide +kernel), List.forall_mem_cons.mpr ⟨
  s_i2l (show decode (cod 129) 49 = .ok (.i2l, 1) by decide +kernel), List.forall_mem_cons.mpr ⟨
  s_lconst (show decode (cod 129) 50 = .ok (.lconst 0, 1) by decide +kernel) rfl, List.forall_mem_cons.mpr ⟨
  s_ldc2 (show decode (cod 129) 51 = .ok (.ldc2_w 109, 3) by decide +kernel) wd_643, List.forall_mem_cons.mpr ⟨
  s_invS (show decode (cod 129) 54 = .ok (.invokestatic 100, 3) by decide +kernel) rfl cld_129_130 wd_641 wd_642, List.forall_mem_cons.mpr ⟨
  s_ifeq (show decode (cod 129) 57 = .ok (.ifCond .eq 29, 3) by decide +kernel) (by decide), List.forall_mem_cons.mpr ⟨
  s_iload (k := 6) (show decode (cod 129) 60 = .ok (.iload 6, 2) by decide +kernel), List.forall_mem_cons.mpr ⟨
  s_i2l (show decode (cod 129) 62 = .ok (.i2l, 1) by decide +kernel), List.forall_mem_cons.mpr ⟨
  s_lconst (show decode (cod 129) 63 = .ok (.lconst 0, 1) by decide +kernel) rfl, List.forall_mem_cons.mpr ⟨
  s_ldc2 (show decode (cod 129) 64 = .ok (.ldc2_w 109, 3) by decide +kernel) wd_643, List.forall_mem_cons.mpr ⟨
  s_invS (show decode (cod 129) 67 = .ok (.invokestatic 100, 3) by decide +kernel) rfl cld_129_130 wd_641 wd_642, List.forall_mem_cons.mpr ⟨
  s_ifeq (show decode (cod 129) 70 = .ok (.ifCond .eq 16, 3) by decide +kernel) (by decide), List.forall_mem_cons.mpr ⟨
  s_iload (k := 7) (show decode (cod 129) 73 = .ok (.iload 7, 2) by decide +kernel), List.forall_mem_cons.mpr ⟨
  s_i2l (show decode (cod 129) 75 = .ok (.i2l, 1) by decide +kernel), List.forall_mem_cons.mpr ⟨
  s_lconst (show decode (cod 129) 76 = .ok (.lconst 0, 1) by decide +kernel) rfl, List.forall_mem_cons.mpr ⟨
  s_ldc2 (show decode (cod 129) 77 = .ok (.ldc2_w 109, 3) by decide +kernel) wd_643, fun _ h => by cases h⟩⟩⟩⟩⟩⟩⟩⟩⟩⟩⟩⟩⟩⟩⟩⟩⟩⟩⟩⟩⟩⟩⟩⟩⟩⟩⟩⟩⟩⟩⟩⟩⟩⟩⟩⟩⟩⟩⟩⟩
set_option maxRecDepth 100000 in
set_option maxHeartbeats 4000000 in
theorem si129_1 (X : CX) (l : Launch) : ∀ q ∈ ([(80, iC 83 130 6 3 1), (83, iB 86 89 (b1 (fun x => decide (x ≠ 0)))), (86, iP 88 (fK (.inl (-1000001)))), (88, iRet rI), (89, iP 90 (fAld 0)), (90, iRR 93 (gtR 56)), (93, iP 95 (fK (.inl 6))), (95, iP 96 (fIld 1)), (96, iP 97 (f2I (fun x y => x * y))), (97, iP 98 (fIld 2)), (98, iW 99 wAI), (99, iP 100 (fAld 0)), (100, iRR 103 (gtR 56)), (103, iP 105 (fK (.inl 6))), (105, iP 106 (fIld 1)), (106, iP 107 (f2I (fun x y => x * y))), (107, iP 108 (fK (.inl 1))), (108, iP 109 (f2I (fun x y => x + y))), (109, iP 110 (fIld 3)), (110, iW 111 wAI), (111, iP 112 (fAld 0)), (112, iRR 115 (gtR 56)), (115, iP 117 (fK (.inl 6))), (117, iP 118 (fIld 1)), (118, iP 119 (f2I (fun x y => x * y))), (119, iP 120 (fK (.inl 2))), (120, iP 121 (f2I (fun x y => x + y))), (121, iP 123 (fIld 4)), (123, iW 124 wAI), (124, iP 125 (fAld 0)), (125, iRR 128 (gtR 56)), (128, iP 130 (fK (.inl 6))), (130, iP 131 (fIld 1)), (131, iP 132 (f2I (fun x y => x * y))), (132, iP 133 (fK (.inl 3))), (133, iP 134 (f2I (fun x y => x + y))), (134, iP 136 (fIld 5)), (136, iW 137 wAI), (137, iP 138 (fAld 0)), (138, iRR 141 (gtR 56))] : List (Nat × AS)), SI X l 129 q.1 q.2 := List.forall_mem_cons.mpr ⟨
  s_invS (show decode (cod 129) 80 = .ok (.invokestatic 100, 3) by decide +kernel) rfl cld_129_130 wd_641 wd_642, List.forall_mem_cons.mpr ⟨
  s_ifne (show decode (cod 129) 83 = .ok (.ifCond .ne 6, 3) by decide +kernel) (by decide), List.forall_mem_cons.mpr ⟨
  s_ldc (show decode (cod 129) 86 = .ok (.ldc 111, 2) by decide +kernel) wd_644, List.forall_mem_cons.mpr ⟨
  s_ret (show decode (cod 129) 88 = .ok (.ireturn, 1) by decide +kernel) rI_ok (fun h => by cases h), List.forall_mem_cons.mpr ⟨
  s_aload_n (k := 0) (show decode (cod 129) 89 = .ok (.aload_n 0, 1) by decide +kernel), List.forall_mem_cons.mpr ⟨
  s_getR (show decode (cod 129) 90 = .ok (.getfield 25, 3) by decide +kernel) wd_612 (Or.inl rfl) rfl, List.forall_mem_cons.mpr ⟨
  s_bipush (show decode (cod 129) 93 = .ok (.bipush 6, 2) by decide +kernel) rfl, List.forall_mem_cons.mpr ⟨
  s_iload_n (k := 1) (show decode (cod 129) 95 = .ok (.iload_n 1, 1) by decide +kernel), List.forall_mem_cons.mpr ⟨
  s_imul (show decode (cod 129) 96 = .ok (.imul, 1) by decide +kernel), List.forall_mem_cons.mpr ⟨
  s_iload_n (k := 2) (show decode (cod 129) 97 = .ok (.iload_n 2, 1) by decide +kernel), List.forall_mem_cons.mpr ⟨
  s_iastore (show decode (cod 129) 98 = .ok (.iastore, 1) by decide +kernel), List.forall_mem_cons.mpr ⟨
  s_aload_n (k := 0) (show decode (cod 129) 99 = .ok (.aload_n 0, 1) by decide +kernel), List.forall_mem_cons.mpr ⟨
  s_getR (show decode (cod 129) 100 = .ok (.getfield 25, 3) by decide +kernel) wd_612 (Or.inl rfl) rfl, List.forall_mem_cons.mpr ⟨
  s_bipush (show decode (cod 129) 103 = .ok (.bipush 6, 2) by decide +kernel) rfl, List.forall_mem_cons.mpr ⟨
  s_iload_n (k := 1) (show decode (cod 129) 105 = .ok (.iload_n 1, 1) by decide +kernel), List.forall_mem_cons.mpr ⟨
  s_imul (show decode (cod 129) 106 = .ok (.imul, 1) by decide +kernel), List.forall_mem_cons.mpr ⟨
  s_iconst (show decode (cod 129) 107 = .ok (.iconst 1, 1) by decide +kernel) rfl, List.forall_mem_cons.mpr ⟨
  s_iadd (show decode (cod 129) 108 = .ok (.iadd, 1) by decide +kernel), List.forall_mem_cons.mpr ⟨
  s_iload_n (k := 3) (show decode (cod 129) 109 = .ok (.iload_n 3, 1) by decide +kernel), List.forall_mem_cons.mpr ⟨
  s_iastore (show decode (cod 129) 110 = .ok (.iastore, 1) by decide +kernel), List.forall_mem_cons.mpr ⟨
  s_aload_n (k := 0) (show decode (cod 129) 111 = .ok (.aload_n 0, 1) by decide +kernel), List.forall_mem_cons.mpr ⟨
  s_getR (show decode (cod 129) 112 = .ok (.getfield 25, 3) by decide +kernel) wd_612 (Or.inl rfl) rfl, List.forall_mem_cons.mpr ⟨
  s_bipush (show decode (cod 129) 115 = .ok (.bipush 6, 2) by decide +kernel) rfl, List.forall_mem_cons.mpr ⟨
  s_iload_n (k := 1) (show decode (cod 129) 117 = .ok (.iload_n 1, 1) by decide +kernel), List.forall_mem_cons.mpr ⟨
  s_imul (show decode (cod 129) 118 = .ok (.imul, 1) by decide +kernel), List.forall_mem_cons.mpr ⟨
  s_iconst (show decode (cod 129) 119 = .ok (.iconst 2, 1) by decide +kernel) rfl, List.forall_mem_cons.mpr ⟨
  s_iadd (show decode (cod 129) 120 = .ok (.iadd, 1) by decide +kernel), List.forall_mem_cons.mpr ⟨
  s_iload (k := 4) (show decode (cod 129) 121 = .ok (.iload 4, 2) by decide +kernel), List.forall_mem_cons.mpr ⟨
  s_iastore (show decode (cod 129) 123 = .ok (.iastore, 1) by decide +kernel), List.forall_mem_cons.mpr ⟨
  s_aload_n (k := 0) (show decode (cod 129) 124 = .ok (.aload_n 0, 1) by decide +kernel), List.forall_mem_cons.mpr ⟨
  s_getR (show decode (cod 129) 125 = .ok (.getfield 25, 3) by decide +kernel) wd_612 (Or.inl rfl) rfl, List.forall_mem_cons.mpr ⟨
  s_bipush (show decode (cod 129) 128 = .ok (.bipush 6, 2) by decide +kernel) rfl, List.forall_mem_cons.mpr ⟨
  s_iload_n (k := 1) (show decode (cod 129) 130 = .ok (.iload_n 1, 1) by decide +kernel), List.forall_mem_cons.mpr ⟨
  s_imul (show decode (cod 129) 131 = .ok (.imul, 1) by decide +kernel), List.forall_mem_cons.mpr ⟨
  s_iconst (show decode (cod 129) 132 = .ok (.iconst 3, 1) by decide +kernel) rfl, List.forall_mem_cons.mpr ⟨
  s_iadd (show decode (cod 129) 133 = .ok (.iadd, 1) by decide +kernel), List.forall_mem_cons.mpr ⟨
  s_iload (k := 5) (show decode (cod 129) 134 = .ok (.iload 5, 2) by decide +kernel), List.forall_mem_cons.mpr ⟨
  s_iastore (show decode (cod 129) 136 = .ok (.iastore, 1) by decide +kernel), List.forall_mem_cons.mpr ⟨
  s_aload_n (k := 0) (show decode (cod 129) 137 = .ok (.aload_n 0, 1) by decide +kernel), List.forall_mem_cons.mpr ⟨
  s_getR (show decode (cod 129) 138 = .ok (.getfield 25, 3) by decide +kernel) wd_612 (Or.inl rfl) rfl, fun _ h => by cases h⟩⟩⟩⟩⟩⟩⟩⟩⟩⟩⟩⟩⟩⟩⟩⟩⟩⟩⟩⟩⟩⟩⟩⟩⟩⟩⟩⟩⟩⟩⟩⟩⟩⟩⟩⟩⟩⟩⟩⟩
set_option maxRecDepth 100000 in
set_option maxHeartbeats 4000000 in
theorem si129_2 (X : CX) (l : Launch) : ∀ q ∈ ([(141, iP 143 (fK (.inl 6))), (143, iP 144 (fIld 1)), (144, iP 145 (f2I (fun x y => x * y))), (145, iP 146 (fK (.inl 4))), (146, iP 147 (f2I (fun x y => x + y))), (147, iP 149 (fIld 6)), (149, iW 150 wAI), (150, iP 151 (fAld 0)), (151, iRR 154 (gtR 56)), (154, iP 156 (fK (.inl 6))), (156, iP 157 (fIld 1)), (157, iP 158 (f2I (fun x y => x * y))), (158, iP 159 (fK (.inl 5))), (159, iP 160 (f2I (fun x y => x + y))), (160, iP 162 (fIld 7)), (162, iW 163 wAI), (163, iP 164 (fK (.inl 1))), (164, iRet rI)] : List (Nat × AS)), SI X l 129 q.1 q.2 := List.forall_mem_cons.mpr ⟨
  s_bipush (show decode (cod 129) 141 = .ok (.bipush 6, 2) by decide +kernel) rfl, List.forall_mem_cons.mpr ⟨
  s_iload_n (k := 1) (show decode (cod 129) 143 = .ok (.iload_n 1, 1) by decide +kernel), List.forall_mem_cons.mpr ⟨
  s_imul (show decode (cod 129) 144 = .ok (.imul, 1) by decide +kernel), List.forall_mem_cons.mpr ⟨
  s_iconst (show decode (cod 129) 145 = .ok (.iconst 4, 1) by decide +kernel) rfl, List.forall_mem_cons.mpr ⟨
  s_iadd (show decode (cod 129) 146 = .ok (.iadd, 1) by decide +kernel), List.forall_mem_cons.mpr ⟨
  s_iload (k := 6) (show decode (cod 129) 147 = .ok (.iload 6, 2) by decide +kernel), List.forall_mem_cons.mpr ⟨
  s_iastore (show decode (cod 129) 149 = .ok (.iastore, 1) by decide +kernel), List.forall_mem_cons.mpr ⟨
  s_aload_n (k := 0) (show decode (cod 129) 150 = .ok (.aload_n 0, 1) by decide +kernel), List.forall_mem_cons.mpr ⟨
  s_getR (show decode (cod 129) 151 = .ok (.getfield 25, 3) by decide +kernel) wd_612 (Or.inl rfl) rfl, List.forall_mem_cons.mpr ⟨
  s_bipush (show decode (cod 129) 154 = .ok (.bipush 6, 2) by decide +kernel) rfl, List.forall_mem_cons.mpr ⟨
  s_iload_n (k := 1) (show decode (cod 129) 156 = .ok (.iload_n 1, 1) by decide +kernel), List.forall_mem_cons.mpr ⟨
  s_imul (show decode (cod 129) 157 = .ok (.imul, 1) by decide +kernel), List.forall_mem_cons.mpr ⟨
  s_iconst (show decode (cod 129) 158 = .ok (.iconst 5, 1) by decide +kernel) rfl, List.forall_mem_cons.mpr ⟨
  s_iadd (show decode (cod 129) 159 = .ok (.iadd, 1) by decide +kernel), List.forall_mem_cons.mpr ⟨
  s_iload (k := 7) (show decode (cod 129) 160 = .ok (.iload 7, 2) by decide +kernel), List.forall_mem_cons.mpr ⟨
  s_iastore (show decode (cod 129) 162 = .ok (.iastore, 1) by decide +kernel), List.forall_mem_cons.mpr ⟨
  s_iconst (show decode (cod 129) 163 = .ok (.iconst 1, 1) by decide +kernel) rfl, List.forall_mem_cons.mpr ⟨
  s_ret (show decode (cod 129) 164 = .ok (.ireturn, 1) by decide +kernel) rI_ok (fun h => by cases h), fun _ h => by cases h⟩⟩⟩⟩⟩⟩⟩⟩⟩⟩⟩⟩⟩⟩⟩⟩⟩⟩
set_option maxRecDepth 100000 in
theorem si129 (X : CX) (l : Launch) : ∀ q ∈ pt129, SI X l 129 q.1 q.2 := (List.forall_mem_append (l₁ := _) (l₂ := _)).mpr ⟨si129_0 X l, (List.forall_mem_append (l₁ := _) (l₂ := _)).mpr ⟨si129_1 X l, si129_2 X l⟩⟩
