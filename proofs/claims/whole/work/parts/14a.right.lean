set_option maxRecDepth 100000 in
set_option maxHeartbeats 4000000 in
theorem si0_0 (X : CX) (l : Launch) : ∀ q ∈ ([(0, iP 1 (fAld 0)), (1, iW 4 wObj), (4, iP 5 (fAld 0)), (5, iP 7 (fK (.inl 8))), (7, iW 10 (wNa 24)), (10, iW 13 (ptR 43)), (13, iP 14 (fAld 0)), (14, iP 15 (fK (.inl 0))), (15, iW 18 (ptI 44)), (18, iP 19 (fAld 0)), (19, iP 21 (fK (.inl 6))), (21, iW 23 (wNa 20)), (23, iW 26 (ptR 45)), (26, iP 27 (fAld 0)), (27, iP 29 (fK (.inl 6))), (29, iW 31 (wNa 20)), (31, iW 34 (ptR 46)), (34, iP 35 (fAld 0)), (35, iW 38 (wNew 9 2)), (38, iP 39 fDup), (39, iCK 42 9 2 1 1 0), (42, iW 45 (ptR 47)), (45, iP 46 (fAld 0)), (46, iW 49 (wNew 6 7)), (49, iP 50 fDup), (50, iCK 53 6 3 1 1 0), (53, iW 56 (ptR 48)), (56, iP 57 (fAld 0)), (57, iW 60 (wNew 8 7)), (60, iP 61 fDup), (61, iCK 64 8 9 1 1 0), (64, iW 67 (ptR 49)), (67, iP 68 (fK (.inl 0))), (68, iP 69 (fIst 1)), (69, iP 70 (fIld 1)), (70, iP 72 (fK (.inl 8))), (72, iB 75 95 (b2 (fun x y => decide (y ≤ x)))), (75, iP 76 (fAld 0)), (76, iRR 79 (gtR 43)), (79, iP 80 (fIld 1))] : List (Nat × AS)), SI X l 0 q.1 q.2 := List.forall_mem_cons.mpr ⟨
  s_aload_n (k := 0) (show decode (cod 0) 0 = .ok (.aload_n 0, 1) by decide +kernel), List.forall_mem_cons.mpr ⟨
  s_objInit (show decode (cod 0) 1 = .ok (.invokespecial 3, 3) by decide +kernel) wd_0 wd_1 wd_2 (by decide), List.forall_mem_cons.mpr ⟨
  s_aload_n (k := 0) (show decode (cod 0) 4 = .ok (.aload_n 0, 1) by decide +kernel), List.forall_mem_cons.mpr ⟨
  s_bipush (show decode (cod 0) 5 = .ok (.bipush 8, 2) by decide +kernel) rfl, List.forall_mem_cons.mpr ⟨
  s_anew (show decode (cod 0) 7 = .ok (.anewarray 9, 3) by decide +kernel) (by decide) wd_3, List.forall_mem_cons.mpr ⟨
  s_putR (show decode (cod 0) 10 = .ok (.putfield 11, 3) by decide +kernel) wd_4 (Or.inl rfl) (Or.inr ⟨rfl, rfl, rfl⟩) rfl, List.forall_mem_cons.mpr ⟨
  s_aload_n (k := 0) (show decode (cod 0) 13 = .ok (.aload_n 0, 1) by decide +kernel), List.forall_mem_cons.mpr ⟨
  s_iconst (show decode (cod 0) 14 = .ok (.iconst 0, 1) by decide +kernel) rfl, List.forall_mem_cons.mpr ⟨
  s_putI (show decode (cod 0) 15 = .ok (.putfield 15, 3) by decide +kernel) wd_5 (Or.inl rfl) (Or.inl rfl) rfl, List.forall_mem_cons.mpr ⟨
  s_aload_n (k := 0) (show decode (cod 0) 18 = .ok (.aload_n 0, 1) by decide +kernel), List.forall_mem_cons.mpr ⟨
  s_bipush (show decode (cod 0) 19 = .ok (.bipush 6, 2) by decide +kernel) rfl, List.forall_mem_cons.mpr ⟨
  s_newarr (show decode (cod 0) 21 = .ok (.newarray .int, 2) by decide +kernel) (by decide) rfl wd_6, List.forall_mem_cons.mpr ⟨
  s_putR (show decode (cod 0) 23 = .ok (.putfield 19, 3) by decide +kernel) wd_7 (Or.inl rfl) (Or.inr ⟨rfl, rfl, rfl⟩) rfl, List.forall_mem_cons.mpr ⟨
  s_aload_n (k := 0) (show decode (cod 0) 26 = .ok (.aload_n 0, 1) by decide +kernel), List.forall_mem_cons.mpr ⟨
  s_bipush (show decode (cod 0) 27 = .ok (.bipush 6, 2) by decide +kernel) rfl, List.forall_mem_cons.mpr ⟨
  s_newarr (show decode (cod 0) 29 = .ok (.newarray .int, 2) by decide +kernel) (by decide) rfl wd_6, List.forall_mem_cons.mpr ⟨
  s_putR (show decode (cod 0) 31 = .ok (.putfield 23, 3) by decide +kernel) wd_8 (Or.inl rfl) (Or.inr ⟨rfl, rfl, rfl⟩) rfl, List.forall_mem_cons.mpr ⟨
  s_aload_n (k := 0) (show decode (cod 0) 34 = .ok (.aload_n 0, 1) by decide +kernel), List.forall_mem_cons.mpr ⟨
  s_new (show decode (cod 0) 35 = .ok (.new 26, 3) by decide +kernel) (by decide) rfl wd_9 wd_10 wd_11, List.forall_mem_cons.mpr ⟨
  s_dup (show decode (cod 0) 38 = .ok (.dup, 1) by decide +kernel), List.forall_mem_cons.mpr ⟨
  s_invK rfl (rcv_initN (C := "StepsAhead$Trace") (host := "StepsAhead") (show decode (cod 0) 39 = .ok (.invokespecial 28, 3) by decide +kernel) cld_0_2 rfl rfl ⟨8, _, _, rfl, by decide, rfl⟩ (by decide) wd_13), List.forall_mem_cons.mpr ⟨
  s_putR (show decode (cod 0) 42 = .ok (.putfield 29, 3) by decide +kernel) wd_14 (Or.inl rfl) (Or.inr ⟨rfl, rfl, rfl⟩) rfl, List.forall_mem_cons.mpr ⟨
  s_aload_n (k := 0) (show decode (cod 0) 45 = .ok (.aload_n 0, 1) by decide +kernel), List.forall_mem_cons.mpr ⟨
  s_new (show decode (cod 0) 46 = .ok (.new 33, 3) by decide +kernel) (by decide) rfl wd_15 wd_16 wd_17, List.forall_mem_cons.mpr ⟨
  s_dup (show decode (cod 0) 49 = .ok (.dup, 1) by decide +kernel), List.forall_mem_cons.mpr ⟨
  s_invK rfl (rcv_initN (C := "StepsAhead$Reckoner") (host := "StepsAhead") (show decode (cod 0) 50 = .ok (.invokespecial 35, 3) by decide +kernel) cld_0_3 rfl rfl ⟨5, _, _, rfl, by decide, rfl⟩ (by decide) wd_19), List.forall_mem_cons.mpr ⟨
  s_putR (show decode (cod 0) 53 = .ok (.putfield 36, 3) by decide +kernel) wd_20 (Or.inl rfl) (Or.inr ⟨rfl, rfl, rfl⟩) rfl, List.forall_mem_cons.mpr ⟨
  s_aload_n (k := 0) (show decode (cod 0) 56 = .ok (.aload_n 0, 1) by decide +kernel), List.forall_mem_cons.mpr ⟨
  s_new (show decode (cod 0) 57 = .ok (.new 40, 3) by decide +kernel) (by decide) rfl wd_21 wd_22 wd_23, List.forall_mem_cons.mpr ⟨
  s_dup (show decode (cod 0) 60 = .ok (.dup, 1) by decide +kernel), List.forall_mem_cons.mpr ⟨
  s_invK rfl (rcv_initN (C := "StepsAhead$Runner") (host := "StepsAhead") (show decode (cod 0) 61 = .ok (.invokespecial 42, 3) by decide +kernel) cld_0_9 rfl rfl ⟨7, _, _, rfl, by decide, rfl⟩ (by decide) wd_25), List.forall_mem_cons.mpr ⟨
  s_putR (show decode (cod 0) 64 = .ok (.putfield 43, 3) by decide +kernel) wd_26 (Or.inl rfl) (Or.inr ⟨rfl, rfl, rfl⟩) rfl, List.forall_mem_cons.mpr ⟨
  s_iconst (show decode (cod 0) 67 = .ok (.iconst 0, 1) by decide +kernel) rfl, List.forall_mem_cons.mpr ⟨
  s_istore_n (k := 1) (show decode (cod 0) 68 = .ok (.istore_n 1, 1) by decide +kernel), List.forall_mem_cons.mpr ⟨
  s_iload_n (k := 1) (show decode (cod 0) 69 = .ok (.iload_n 1, 1) by decide +kernel), List.forall_mem_cons.mpr ⟨
  s_bipush (show decode (cod 0) 70 = .ok (.bipush 8, 2) by decide +kernel) rfl, List.forall_mem_cons.mpr ⟨
  s_icmpge (show decode (cod 0) 72 = .ok (.if_icmp .ge 23, 3) by decide +kernel) (by decide), List.forall_mem_cons.mpr ⟨
  s_aload_n (k := 0) (show decode (cod 0) 75 = .ok (.aload_n 0, 1) by decide +kernel), List.forall_mem_cons.mpr ⟨
  s_getR (show decode (cod 0) 76 = .ok (.getfield 11, 3) by decide +kernel) wd_4 (Or.inl rfl) rfl, List.forall_mem_cons.mpr ⟨
  s_iload_n (k := 1) (show decode (cod 0) 79 = .ok (.iload_n 1, 1) by decide +kernel), fun _ h => by cases h⟩⟩⟩⟩⟩⟩⟩⟩⟩⟩⟩⟩⟩⟩⟩⟩⟩⟩⟩⟩⟩⟩⟩⟩⟩⟩⟩⟩⟩⟩⟩⟩⟩⟩⟩⟩⟩⟩⟩⟩
set_option maxRecDepth 100000 in
set_option maxHeartbeats 4000000 in
theorem si0_1 (X : CX) (l : Launch) : ∀ q ∈ ([(80, iW 83 (wNew 7 12)), (83, iP 84 fDup), (84, iP 85 (fIld 1)), (85, iCK 88 7 10 2 2 0), (88, iW 89 wAR), (89, iP 92 (fInc 1 1)), (92, iP 69 fGo), (95, iRet rV)] : List (Nat × AS)), SI X l 0 q.1 q.2 := List.forall_mem_cons.mpr ⟨
  s_new (show decode (cod 0) 80 = .ok (.new 9, 3) by decide +kernel) (by decide) rfl wd_3 wd_27 wd_28, List.forall_mem_cons.mpr ⟨
  s_dup (show decode (cod 0) 83 = .ok (.dup, 1) by decide +kernel), List.forall_mem_cons.mpr ⟨
  s_iload_n (k := 1) (show decode (cod 0) 84 = .ok (.iload_n 1, 1) by decide +kernel), List.forall_mem_cons.mpr ⟨
  s_invK rfl (rcv_init (C := "StepsAhead$Routine") (show decode (cod 0) 85 = .ok (.invokespecial 47, 3) by decide +kernel) cld_0_10 rfl rfl ⟨6, _, _, rfl, by decide, rfl⟩ wd_30 wd_31), List.forall_mem_cons.mpr ⟨
  s_aastore (show decode (cod 0) 88 = .ok (.aastore, 1) by decide +kernel), List.forall_mem_cons.mpr ⟨
  s_iinc (show decode (cod 0) 89 = .ok (.iinc 1 1, 3) by decide +kernel) rfl, List.forall_mem_cons.mpr ⟨
  s_goto (show decode (cod 0) 92 = .ok (.goto (-23), 3) by decide +kernel) (by decide), List.forall_mem_cons.mpr ⟨
  s_ret (show decode (cod 0) 95 = .ok (.return_, 1) by decide +kernel) rV_ok (fun h => by cases h), fun _ h => by cases h⟩⟩⟩⟩⟩⟩⟩⟩
set_option maxRecDepth 100000 in
theorem si0 (X : CX) (l : Launch) : ∀ q ∈ pt0, SI X l 0 q.1 q.2 := (List.forall_mem_append (l₁ := _) (l₂ := _)).mpr ⟨si0_0 X l, si0_1 X l⟩
set_option maxRecDepth 100000 in
set_option maxHeartbeats 4000000 in
theorem si2_0 (X : CX) (l : Launch) : ∀ q ∈ ([(0, iP 1 (fAld 0)), (1, iW 4 wObj), (4, iP 5 (fAld 0)), (5, iP 7 (fK (.inl 16))), (7, iW 9 (wNa 20)), (9, iW 12 (ptR 40)), (12, iP 13 (fAld 0)), (13, iP 14 (fK (.inl 0))), (14, iW 17 (ptI 41)), (17, iRet rV)] : List (Nat × AS)), SI X l 2 q.1 q.2 := List.forall_mem_cons.mpr ⟨
  s_aload_n (k := 0) (show decode (cod 2) 0 = .ok (.aload_n 0, 1) by decide +kernel), List.forall_mem_cons.mpr ⟨
  s_objInit (show decode (cod 2) 1 = .ok (.invokespecial 3, 3) by decide +kernel) wd_32 wd_1 wd_2 (by decide), List.forall_mem_cons.mpr ⟨
  s_aload_n (k := 0) (show decode (cod 2) 4 = .ok (.aload_n 0, 1) by decide +kernel), List.forall_mem_cons.mpr ⟨
  s_bipush (show decode (cod 2) 5 = .ok (.bipush 16, 2) by decide +kernel) rfl, List.forall_mem_cons.mpr ⟨
  s_newarr (show decode (cod 2) 7 = .ok (.newarray .int, 2) by decide +kernel) (by decide) rfl wd_6, List.forall_mem_cons.mpr ⟨
  s_putR (show decode (cod 2) 9 = .ok (.putfield 9, 3) by decide +kernel) wd_33 (Or.inl rfl) (Or.inr ⟨rfl, rfl, rfl⟩) rfl, List.forall_mem_cons.mpr ⟨
  s_aload_n (k := 0) (show decode (cod 2) 12 = .ok (.aload_n 0, 1) by decide +kernel), List.forall_mem_cons.mpr ⟨
  s_iconst (show decode (cod 2) 13 = .ok (.iconst 0, 1) by decide +kernel) rfl, List.forall_mem_cons.mpr ⟨
  s_putI (show decode (cod 2) 14 = .ok (.putfield 15, 3) by decide +kernel) wd_34 (Or.inl rfl) (Or.inl rfl) rfl, List.forall_mem_cons.mpr ⟨
  s_ret (show decode (cod 2) 17 = .ok (.return_, 1) by decide +kernel) rV_ok (fun h => by cases h), fun _ h => by cases h⟩⟩⟩⟩⟩⟩⟩⟩⟩⟩
set_option maxRecDepth 100000 in
theorem si2 (X : CX) (l : Launch) : ∀ q ∈ pt2, SI X l 2 q.1 q.2 :=  si2_0 X l
set_option maxRecDepth 100000 in
set_option maxHeartbeats 4000000 in
theorem si3_0 (X : CX) (l : Launch) : ∀ q ∈ ([(0, iP 1 (fAld 0)), (1, iW 4 wObj), (4, iP 5 (fAld 0)), (5, iW 8 (wNew 5 2)), (8, iP 9 fDup), (9, iCK 12 5 4 4 1 0), (12, iW 15 (ptR 14)), (15, iP 16 (fAld 0)), (16, iP 18 (fK (.inl 18))), (18, iP 21 (fK (.inl 252))), (21, iW 25 (wMu 26 21)), (25, iW 28 (ptR 15)), (28, iP 29 (fAld 0)), (29, iP 30 (fK (.inl 0))), (30, iW 33 (ptI 16)), (33, iP 34 (fAld 0)), (34, iP 37 (fK (.inl 252))), (37, iW 39 (wNa 21)), (39, iW 42 (ptR 17)), (42, iP 43 (fAld 0)), (43, iP 46 (fK (.inl 252))), (46, iW 48 (wNa 21)), (48, iW 51 (ptR 18)), (51, iP 52 (fAld 0)), (52, iP 53 (fK (.inl 0))), (53, iW 56 (ptI 19)), (56, iP 57 (fAld 0)), (57, iP 58 (fK (.inl 0))), (58, iW 61 (ptZ 20)), (61, iRet rV)] : List (Nat × AS)), SI X l 3 q.1 q.2 := List.forall_mem_cons.mpr ⟨
  s_aload_n (k := 0) (show decode (cod 3) 0 = .ok (.aload_n 0, 1) by decide +kernel), List.forall_mem_cons.mpr ⟨
  s_objInit (show decode (cod 3) 1 = .ok (.invokespecial 3, 3) by decide +kernel) wd_35 wd_1 wd_2 (by decide), List.forall_mem_cons.mpr ⟨
  s_aload_n (k := 0) (show decode (cod 3) 4 = .ok (.aload_n 0, 1) by decide +kernel), List.forall_mem_cons.mpr ⟨
  s_new (show decode (cod 3) 5 = .ok (.new 9, 3) by decide +kernel) (by decide) rfl wd_36 wd_37 wd_38, List.forall_mem_cons.mpr ⟨
  s_dup (show decode (cod 3) 8 = .ok (.dup, 1) by decide +kernel), List.forall_mem_cons.mpr ⟨
  s_invK rfl (rcv_init (C := "StepsAhead$Products") (show decode (cod 3) 9 = .ok (.invokespecial 11, 3) by decide +kernel) cld_3_4 rfl rfl ⟨4, _, _, rfl, by decide, rfl⟩ wd_40 wd_41), List.forall_mem_cons.mpr ⟨
  s_putR (show decode (cod 3) 12 = .ok (.putfield 12, 3) by decide +kernel) wd_42 (Or.inl rfl) (Or.inr ⟨rfl, rfl, rfl⟩) rfl, List.forall_mem_cons.mpr ⟨
  s_aload_n (k := 0) (show decode (cod 3) 15 = .ok (.aload_n 0, 1) by decide +kernel), List.forall_mem_cons.mpr ⟨
  s_bipush (show decode (cod 3) 16 = .ok (.bipush 18, 2) by decide +kernel) rfl, List.forall_mem_cons.mpr ⟨
  s_sipush (show decode (cod 3) 18 = .ok (.sipush 252, 3) by decide +kernel) rfl, List.forall_mem_cons.mpr ⟨
  s_multi (show decode (cod 3) 21 = .ok (.multianewarray 18 2, 4) by decide +kernel) (by decide) wd_43 wd_44, List.forall_mem_cons.mpr ⟨
  s_putR (show decode (cod 3) 25 = .ok (.putfield 20, 3) by decide +kernel) wd_45 (Or.inl rfl) (Or.inr ⟨rfl, rfl, rfl⟩) rfl, List.forall_mem_cons.mpr ⟨
  s_aload_n (k := 0) (show decode (cod 3) 28 = .ok (.aload_n 0, 1) by decide +kernel), List.forall_mem_cons.mpr ⟨
  s_iconst (show decode (cod 3) 29 = .ok (.iconst 0, 1) by decide +kernel) rfl, List.forall_mem_cons.mpr ⟨
  s_putI (show decode (cod 3) 30 = .ok (.putfield 23, 3) by decide +kernel) wd_46 (Or.inl rfl) (Or.inl rfl) rfl, List.forall_mem_cons.mpr ⟨
  s_aload_n (k := 0) (show decode (cod 3) 33 = .ok (.aload_n 0, 1) by decide +kernel), List.forall_mem_cons.mpr ⟨
  s_sipush (show decode (cod 3) 34 = .ok (.sipush 252, 3) by decide +kernel) rfl, List.forall_mem_cons.mpr ⟨
  s_newarr (show decode (cod 3) 37 = .ok (.newarray .long, 2) by decide +kernel) (by decide) rfl wd_44, List.forall_mem_cons.mpr ⟨
  s_putR (show decode (cod 3) 39 = .ok (.putfield 27, 3) by decide +kernel) wd_47 (Or.inl rfl) (Or.inr ⟨rfl, rfl, rfl⟩) rfl, List.forall_mem_cons.mpr ⟨
  s_aload_n (k := 0) (show decode (cod 3) 42 = .ok (.aload_n 0, 1) by decide +kernel), List.forall_mem_cons.mpr ⟨
  s_sipush (show decode (cod 3) 43 = .ok (.sipush 252, 3) by decide +kernel) rfl, List.forall_mem_cons.mpr ⟨
  s_newarr (show decode (cod 3) 46 = .ok (.newarray .long, 2) by decide +kernel) (by decide) rfl wd_44, List.forall_mem_cons.mpr ⟨
  s_putR (show decode (cod 3) 48 = .ok (.putfield 31, 3) by decide +kernel) wd_48 (Or.inl rfl) (Or.inr ⟨rfl, rfl, rfl⟩) rfl, List.forall_mem_cons.mpr ⟨
  s_aload_n (k := 0) (show decode (cod 3) 51 = .ok (.aload_n 0, 1) by decide +kernel), List.forall_mem_cons.mpr ⟨
  s_iconst (show decode (cod 3) 52 = .ok (.iconst 0, 1) by decide +kernel) rfl, List.forall_mem_cons.mpr ⟨
  s_putI (show decode (cod 3) 53 = .ok (.putfield 34, 3) by decide +kernel) wd_49 (Or.inl rfl) (Or.inl rfl) rfl, List.forall_mem_cons.mpr ⟨
  s_aload_n (k := 0) (show decode (cod 3) 56 = .ok (.aload_n 0, 1) by decide +kernel), List.forall_mem_cons.mpr ⟨
  s_iconst (show decode (cod 3) 57 = .ok (.iconst 0, 1) by decide +kernel) rfl, List.forall_mem_cons.mpr ⟨
  s_putZ (show decode (cod 3) 58 = .ok (.putfield 37, 3) by decide +kernel) wd_50 (Or.inl rfl) (Or.inl rfl) rfl, List.forall_mem_cons.mpr ⟨
  s_ret (show decode (cod 3) 61 = .ok (.return_, 1) by decide +kernel) rV_ok (fun h => by cases h), fun _ h => by cases h⟩⟩⟩⟩⟩⟩⟩⟩⟩⟩⟩⟩⟩⟩⟩⟩⟩⟩⟩⟩⟩⟩⟩⟩⟩⟩⟩⟩⟩⟩
set_option maxRecDepth 100000 in
theorem si3 (X : CX) (l : Launch) : ∀ q ∈ pt3, SI X l 3 q.1 q.2 :=  si3_0 X l
set_option maxRecDepth 100000 in
set_option maxHeartbeats 4000000 in
theorem si4_0 (X : CX) (l : Launch) : ∀ q ∈ ([(0, iP 1 (fAld 0)), (1, iW 4 wObj), (4, iP 5 (fAld 0)), (5, iP 6 (fK (.inl 5))), (6, iP 9 (fK (.inl 252))), (9, iW 13 (wMu 25 20)), (13, iW 16 (ptR 12)), (16, iP 17 (fAld 0)), (17, iP 20 (fK (.inl 252))), (20, iW 22 (wNa 20)), (22, iW 25 (ptR 13)), (25, iP 28 (fK (.inl 252))), (28, iW 30 (wNa 20)), (30, iP 31 (fAst 1)), (31, iP 32 (fK (.inl 0))), (32, iP 33 (fIst 2)), (33, iP 34 (fIld 2)), (34, iP 35 (fK (.inl 5))), (35, iB 38 54 (b2 (fun x y => decide (y ≤ x)))), (38, iP 39 (fAld 0)), (39, iRR 42 (gtR 12)), (42, iP 43 (fIld 2)), (43, iRR 44 qAR), (44, iP 45 (fK (.inl (-1)))), (45, iC 48 5 4 2 0), (48, iP 51 (fInc 2 1)), (51, iP 33 fGo), (54, iP 55 (fK (.inl 0))), (55, iP 56 (fIst 2)), (56, iP 57 (fK (.inl 0))), (57, iP 58 (fIst 3)), (58, iP 59 (fIld 3)), (59, iP 60 (fK (.inl 5))), (60, iB 63 97 (b2 (fun x y => decide (y ≤ x)))), (63, iP 64 (fAld 0)), (64, iP 65 (fAld 1)), (65, iP 66 (fIld 2)), (66, iP 69 (fK (.inr (.inr 2)))), (69, iP 70 (fIld 3)), (70, iRI 71 qAI)] : List (Nat × AS)), SI X l 4 q.1 q.2 := List.forall_mem_cons.mpr ⟨
  s_aload_n (k := 0) (show decode (cod 4) 0 = .ok (.aload_n 0, 1) by decide +kernel), List.forall_mem_cons.mpr ⟨
  s_objInit (show decode (cod 4) 1 = .ok (.invokespecial 3, 3) by decide +kernel) wd_51 wd_1 wd_2 (by decide), List.forall_mem_cons.mpr ⟨
  s_aload_n (k := 0) (show decode (cod 4) 4 = .ok (.aload_n 0, 1) by decide +kernel), List.forall_mem_cons.mpr ⟨
  s_iconst (show decode (cod 4) 5 = .ok (.iconst 5, 1) by decide +kernel) rfl, List.forall_mem_cons.mpr ⟨
  s_sipush (show decode (cod 4) 6 = .ok (.sipush 252, 3) by decide +kernel) rfl, List.forall_mem_cons.mpr ⟨
  s_multi (show decode (cod 4) 9 = .ok (.multianewarray 11 2, 4) by decide +kernel) (by decide) wd_52 wd_6, List.forall_mem_cons.mpr ⟨
  s_putR (show decode (cod 4) 13 = .ok (.putfield 13, 3) by decide +kernel) wd_53 (Or.inl rfl) (Or.inr ⟨rfl, rfl, rfl⟩) rfl, List.forall_mem_cons.mpr ⟨
  s_aload_n (k := 0) (show decode (cod 4) 16 = .ok (.aload_n 0, 1) by decide +kernel), List.forall_mem_cons.mpr ⟨
  s_sipush (show decode (cod 4) 17 = .ok (.sipush 252, 3) by decide +kernel) rfl, List.forall_mem_cons.mpr ⟨
  s_newarr (show decode (cod 4) 20 = .ok (.newarray .int, 2) by decide +kernel) (by decide) rfl wd_6, List.forall_mem_cons.mpr ⟨
  s_putR (show decode (cod 4) 22 = .ok (.putfield 16, 3) by decide +kernel) wd_54 (Or.inl rfl) (Or.inr ⟨rfl, rfl, rfl⟩) rfl, List.forall_mem_cons.mpr ⟨
  s_sipush (show decode (cod 4) 25 = .ok (.sipush 252, 3) by decide +kernel) rfl, List.forall_mem_cons.mpr ⟨
  s_newarr (show decode (cod 4) 28 = .ok (.newarray .int, 2) by decide +kernel) (by decide) rfl wd_6, List.forall_mem_cons.mpr ⟨
  s_astore_n (k := 1) (show decode (cod 4) 30 = .ok (.astore_n 1, 1) by decide +kernel), List.forall_mem_cons.mpr ⟨
  s_iconst (show decode (cod 4) 31 = .ok (.iconst 0, 1) by decide +kernel) rfl, List.forall_mem_cons.mpr ⟨
  s_istore_n (k := 2) (show decode (cod 4) 32 = .ok (.istore_n 2, 1) by decide +kernel), List.forall_mem_cons.mpr ⟨
  s_iload_n (k := 2) (show decode (cod 4) 33 = .ok (.iload_n 2, 1) by decide +kernel), List.forall_mem_cons.mpr ⟨
  s_iconst (show decode (cod 4) 34 = .ok (.iconst 5, 1) by decide +kernel) rfl, List.forall_mem_cons.mpr ⟨
  s_icmpge (show decode (cod 4) 35 = .ok (.if_icmp .ge 19, 3) by decide +kernel) (by decide), List.forall_mem_cons.mpr ⟨
  s_aload_n (k := 0) (show decode (cod 4) 38 = .ok (.aload_n 0, 1) by decide +kernel), List.forall_mem_cons.mpr ⟨
  s_getR (show decode (cod 4) 39 = .ok (.getfield 13, 3) by decide +kernel) wd_53 (Or.inl rfl) rfl, List.forall_mem_cons.mpr ⟨
  s_iload_n (k := 2) (show decode (cod 4) 42 = .ok (.iload_n 2, 1) by decide +kernel), List.forall_mem_cons.mpr ⟨
  s_aaload (show decode (cod 4) 43 = .ok (.aaload, 1) by decide +kernel), List.forall_mem_cons.mpr ⟨
  s_iconst (show decode (cod 4) 44 = .ok (.iconst (-1), 1) by decide +kernel) rfl, List.forall_mem_cons.mpr ⟨
  s_invS (show decode (cod 4) 45 = .ok (.invokestatic 20, 3) by decide +kernel) rfl cld_4_5 wd_57 wd_58, List.forall_mem_cons.mpr ⟨
  s_iinc (show decode (cod 4) 48 = .ok (.iinc 2 1, 3) by decide +kernel) rfl, List.forall_mem_cons.mpr ⟨
  s_goto (show decode (cod 4) 51 = .ok (.goto (-18), 3) by decide +kernel) (by decide), List.forall_mem_cons.mpr ⟨
  s_iconst (show decode (cod 4) 54 = .ok (.iconst 0, 1) by decide +kernel) rfl, List.forall_mem_cons.mpr ⟨
  s_istore_n (k := 2) (show decode (cod 4) 55 = .ok (.istore_n 2, 1) by decide +kernel), List.forall_mem_cons.mpr ⟨
  s_iconst (show decode (cod 4) 56 = .ok (.iconst 0, 1) by decide +kernel) rfl, List.forall_mem_cons.mpr ⟨
  s_istore_n (k := 3) (show decode (cod 4) 57 = .ok (.istore_n 3, 1) by decide +kernel), List.forall_mem_cons.mpr ⟨
  s_iload_n (k := 3) (show decode (cod 4) 58 = .ok (.iload_n 3, 1) by decide +kernel), List.forall_mem_cons.mpr ⟨
  s_iconst (show decode (cod 4) 59 = .ok (.iconst 5, 1) by decide +kernel) rfl, List.forall_mem_cons.mpr ⟨
  s_icmpge (show decode (cod 4) 60 = .ok (.if_icmp .ge 37, 3) by decide +kernel) (by decide), List.forall_mem_cons.mpr ⟨
  s_aload_n (k := 0) (show decode (cod 4) 63 = .ok (.aload_n 0, 1) by decide +kernel), List.forall_mem_cons.mpr ⟨
  s_aload_n (k := 1) (show decode (cod 4) 64 = .ok (.aload_n 1, 1) by decide +kernel), List.forall_mem_cons.mpr ⟨
  s_iload_n (k := 2) (show decode (cod 4) 65 = .ok (.iload_n 2, 1) by decide +kernel), List.forall_mem_cons.mpr ⟨
  s_getst1 (show decode (cod 4) 66 = .ok (.getstatic 26, 3) by decide +kernel) wd_59, List.forall_mem_cons.mpr ⟨
  s_iload_n (k := 3) (show decode (cod 4) 69 = .ok (.iload_n 3, 1) by decide +kernel), List.forall_mem_cons.mpr ⟨
  s_iaload (show decode (cod 4) 70 = .ok (.iaload, 1) by decide +kernel), fun _ h => by cases h⟩⟩⟩⟩⟩⟩⟩⟩⟩⟩⟩⟩⟩⟩⟩⟩⟩⟩⟩⟩⟩⟩⟩⟩⟩⟩⟩⟩⟩⟩⟩⟩⟩⟩⟩⟩⟩⟩⟩⟩
set_option maxRecDepth 100000 in
set_option maxHeartbeats 4000000 in
theorem si4_1 (X : CX) (l : Launch) : ∀ q ∈ ([(71, iCK 74 5 6 7 4 0), (74, iP 75 (fAld 0)), (75, iP 76 (fAld 1)), (76, iP 77 (fIld 2)), (77, iP 80 (fK (.inr (.inr 2)))), (80, iP 81 (fIld 3)), (81, iRI 82 qAI), (82, iCK 85 5 7 7 4 0), (85, iP 88 (fK (.inr (.inr 2)))), (88, iP 89 (fIld 3)), (89, iRI 90 qAI), (90, iP 91 (fIst 2)), (91, iP 94 (fInc 3 1)), (94, iP 58 fGo), (97, iRet rV)] : List (Nat × AS)), SI X l 4 q.1 q.2 := List.forall_mem_cons.mpr ⟨
  s_invK rfl (rcv_virt (show decode (cod 4) 71 = .ok (.invokevirtual 29, 3) by decide +kernel) cld_4_6 ⟨4, _, _, rfl, by decide, rfl⟩ wd_61 wd_62 wd_63), List.forall_mem_cons.mpr ⟨
  s_aload_n (k := 0) (show decode (cod 4) 74 = .ok (.aload_n 0, 1) by decide +kernel), List.forall_mem_cons.mpr ⟨
  s_aload_n (k := 1) (show decode (cod 4) 75 = .ok (.aload_n 1, 1) by decide +kernel), List.forall_mem_cons.mpr ⟨
  s_iload_n (k := 2) (show decode (cod 4) 76 = .ok (.iload_n 2, 1) by decide +kernel), List.forall_mem_cons.mpr ⟨
  s_getst1 (show decode (cod 4) 77 = .ok (.getstatic 26, 3) by decide +kernel) wd_59, List.forall_mem_cons.mpr ⟨
  s_iload_n (k := 3) (show decode (cod 4) 80 = .ok (.iload_n 3, 1) by decide +kernel), List.forall_mem_cons.mpr ⟨
  s_iaload (show decode (cod 4) 81 = .ok (.iaload, 1) by decide +kernel), List.forall_mem_cons.mpr ⟨
  s_invK rfl (rcv_virt (show decode (cod 4) 82 = .ok (.invokevirtual 33, 3) by decide +kernel) cld_4_7 ⟨4, _, _, rfl, by decide, rfl⟩ wd_65 wd_66 wd_67), List.forall_mem_cons.mpr ⟨
  s_getst1 (show decode (cod 4) 85 = .ok (.getstatic 26, 3) by decide +kernel) wd_59, List.forall_mem_cons.mpr ⟨
  s_iload_n (k := 3) (show decode (cod 4) 88 = .ok (.iload_n 3, 1) by decide +kernel), List.forall_mem_cons.mpr ⟨
  s_iaload (show decode (cod 4) 89 = .ok (.iaload, 1) by decide +kernel), List.forall_mem_cons.mpr ⟨
  s_istore_n (k := 2) (show decode (cod 4) 90 = .ok (.istore_n 2, 1) by decide +kernel), List.forall_mem_cons.mpr ⟨
  s_iinc (show decode (cod 4) 91 = .ok (.iinc 3 1, 3) by decide +kernel) rfl, List.forall_mem_cons.mpr ⟨
  s_goto (show decode (cod 4) 94 = .ok (.goto (-36), 3) by decide +kernel) (by decide), List.forall_mem_cons.mpr ⟨
  s_ret (show decode (cod 4) 97 = .ok (.return_, 1) by decide +kernel) rV_ok (fun h => by cases h), fun _ h => by cases h⟩⟩⟩⟩⟩⟩⟩⟩⟩⟩⟩⟩⟩⟩⟩
set_option maxRecDepth 100000 in
theorem si4 (X : CX) (l : Launch) : ∀ q ∈ pt4, SI X l 4 q.1 q.2 := (List.forall_mem_append (l₁ := _) (l₂ := _)).mpr ⟨si4_0 X l, si4_1 X l⟩
set_option maxRecDepth 100000 in
set_option maxHeartbeats 4000000 in
theorem si5_0 (X : CX) (l : Launch) : ∀ q ∈ ([(0, iP 1 (fK (.inl 0))), (1, iP 2 (fIst 2)), (2, iP 3 (fAld 0)), (3, iRI 4 qLen), (4, iP 5 (fIst 3)), (5, iP 6 (fIld 2)), (6, iP 7 (fIld 3)), (7, iB 10 20 (b2 (fun x y => decide (y ≤ x)))), (10, iP 11 (fAld 0)), (11, iP 12 (fIld 2)), (12, iP 13 (fIld 1)), (13, iW 14 wAI), (14, iP 17 (fInc 2 1)), (17, iP 5 fGo), (20, iRet rV)] : List (Nat × AS)), SI X l 5 q.1 q.2 := List.forall_mem_cons.mpr ⟨
  s_iconst (show decode (cod 5) 0 = .ok (.iconst 0, 1) by decide +kernel) rfl, List.forall_mem_cons.mpr ⟨
  s_istore_n (k := 2) (show decode (cod 5) 1 = .ok (.istore_n 2, 1) by decide +kernel), List.forall_mem_cons.mpr ⟨
  s_aload_n (k := 0) (show decode (cod 5) 2 = .ok (.aload_n 0, 1) by decide +kernel), List.forall_mem_cons.mpr ⟨
  s_alen (show decode (cod 5) 3 = .ok (.arraylength, 1) by decide +kernel), List.forall_mem_cons.mpr ⟨
  s_istore_n (k := 3) (show decode (cod 5) 4 = .ok (.istore_n 3, 1) by decide +kernel), List.forall_mem_cons.mpr ⟨
  s_iload_n (k := 2) (show decode (cod 5) 5 = .ok (.iload_n 2, 1) by decide +kernel), List.forall_mem_cons.mpr ⟨
  s_iload_n (k := 3) (show decode (cod 5) 6 = .ok (.iload_n 3, 1) by decide +kernel), List.forall_mem_cons.mpr ⟨
  s_icmpge (show decode (cod 5) 7 = .ok (.if_icmp .ge 13, 3) by decide +kernel) (by decide), List.forall_mem_cons.mpr ⟨
  s_aload_n (k := 0) (show decode (cod 5) 10 = .ok (.aload_n 0, 1) by decide +kernel), List.forall_mem_cons.mpr ⟨
  s_iload_n (k := 2) (show decode (cod 5) 11 = .ok (.iload_n 2, 1) by decide +kernel), List.forall_mem_cons.mpr ⟨
  s_iload_n (k := 1) (show decode (cod 5) 12 = .ok (.iload_n 1, 1) by decide +kernel), List.forall_mem_cons.mpr ⟨
  s_iastore (show decode (cod 5) 13 = .ok (.iastore, 1) by decide +kernel), List.forall_mem_cons.mpr ⟨
  s_iinc (show decode (cod 5) 14 = .ok (.iinc 2 1, 3) by decide +kernel) rfl, List.forall_mem_cons.mpr ⟨
  s_goto (show decode (cod 5) 17 = .ok (.goto (-12), 3) by decide +kernel) (by decide), List.forall_mem_cons.mpr ⟨
  s_ret (show decode (cod 5) 20 = .ok (.return_, 1) by decide +kernel) rV_ok (fun h => by cases h), fun _ h => by cases h⟩⟩⟩⟩⟩⟩⟩⟩⟩⟩⟩⟩⟩⟩⟩
set_option maxRecDepth 100000 in
theorem si5 (X : CX) (l : Launch) : ∀ q ∈ pt5, SI X l 5 q.1 q.2 :=  si5_0 X l
set_option maxRecDepth 100000 in
set_option maxHeartbeats 4000000 in
theorem si6_0 (X : CX) (l : Launch) : ∀ q ∈ ([(0, iP 1 (fIld 3)), (1, iP 3 (fIst 4)), (3, iP 4 (fIld 2)), (4, iP 6 (fIst 5)), (6, iP 8 (fIld 5)), (8, iP 9 (fIld 3)), (9, iB 12 77 (b2 (fun x y => decide (y ≤ x)))), (12, iP 13 (fAld 0)), (13, iRR 16 (gtR 13)), (16, iP 18 (fIld 5)), (18, iRI 19 qAI), (19, iP 21 (fIst 6)), (21, iP 23 (fIld 6)), (23, iP 24 (fK (.inl 5))), (24, iB 27 71 (b2 (fun x y => decide (y ≤ x)))), (27, iP 29 (fIld 4)), (29, iP 32 (fK (.inl 252))), (32, iB 35 71 (b2 (fun x y => decide (y ≤ x)))), (35, iP 36 (fAld 0)), (36, iRR 39 (gtR 12)), (39, iP 41 (fIld 6)), (41, iRR 42 qAR), (42, iP 44 (fIld 5)), (44, iP 46 (fIld 4)), (46, iW 47 wAI), (47, iP 48 (fAld 0)), (48, iRR 51 (gtR 13)), (51, iP 53 (fIld 4)), (53, iP 55 (fIld 6)), (55, iW 56 wAI), (56, iP 57 (fAld 1)), (57, iP 59 (fIld 4)), (59, iP 61 (fIld 5)), (61, iW 62 wAI), (62, iP 65 (fInc 4 1)), (65, iP 68 (fInc 6 1)), (68, iP 21 fGo), (71, iP 74 (fInc 5 1)), (74, iP 6 fGo), (77, iRet rV)] : List (Nat × AS)), SI X l 6 q.1 q.2 := List.forall_mem_cons.mpr ⟨
  s_iload_n (k := 3) (show decode (cod 6) 0 = .ok (.iload_n 3, 1) by decide +kernel), List.forall_mem_cons.mpr ⟨
  s_istore (k := 4) (show decode (cod 6) 1 = .ok (.istore 4, 2) by decide +kernel), List.forall_mem_cons.mpr ⟨
  s_iload_n (k := 2) (show decode (cod 6) 3 = .ok (.iload_n 2, 1) by decide +kernel), List.forall_mem_cons.mpr ⟨
  s_istore (k := 5) (show decode (cod 6) 4 = .ok (.istore 5, 2) by decide +kernel), List.forall_mem_cons.mpr ⟨
  s_iload (k := 5) (show decode (cod 6) 6 = .ok (.iload 5, 2) by decide +kernel), List.forall_mem_cons.mpr ⟨
  s_iload_n (k := 3) (show decode (cod 6) 8 = .ok (.iload_n 3, 1) by decide +kernel), List.forall_mem_cons.mpr ⟨
  s_icmpge (show decode (cod 6) 9 = .ok (.if_icmp .ge 68, 3) by decide +kernel) (by decide), List.forall_mem_cons.mpr ⟨
  s_aload_n (k := 0) (show decode (cod 6) 12 = .ok (.aload_n 0, 1) by decide +kernel), List.forall_mem_cons.mpr ⟨
  s_getR (show decode (cod 6) 13 = .ok (.getfield 16, 3) by decide +kernel) wd_54 (Or.inl rfl) rfl, List.forall_mem_cons.mpr ⟨
  s_iload (k := 5) (show decode (cod 6) 16 = .ok (.iload 5, 2) by decide +kernel), List.forall_mem_cons.mpr ⟨
  s_iaload (show decode (cod 6) 18 = .ok (.iaload, 1) by decide +kernel), List.forall_mem_cons.mpr ⟨
  s_istore (k := 6) (show decode (cod 6) 19 = .ok (.istore 6, 2) by decide +kernel), List.forall_mem_cons.mpr ⟨
  s_iload (k := 6) (show decode (cod 6) 21 = .ok (.iload 6, 2) by decide +kernel), List.forall_mem_cons.mpr ⟨
  s_iconst (show decode (cod 6) 23 = .ok (.iconst 5, 1) by decide +kernel) rfl, List.forall_mem_cons.mpr ⟨
  s_icmpge (show decode (cod 6) 24 = .ok (.if_icmp .ge 47, 3) by decide +kernel) (by decide), List.forall_mem_cons.mpr ⟨
  s_iload (k := 4) (show decode (cod 6) 27 = .ok (.iload 4, 2) by decide +kernel), List.forall_mem_cons.mpr ⟨
  s_sipush (show decode (cod 6) 29 = .ok (.sipush 252, 3) by decide +kernel) rfl, List.forall_mem_cons.mpr ⟨
  s_icmpge (show decode (cod 6) 32 = .ok (.if_icmp .ge 39, 3) by decide +kernel) (by decide), List.forall_mem_cons.mpr ⟨
  s_aload_n (k := 0) (show decode (cod 6) 35 = .ok (.aload_n 0, 1) by decide +kernel), List.forall_mem_cons.mpr ⟨
  s_getR (show decode (cod 6) 36 = .ok (.getfield 13, 3) by decide +kernel) wd_53 (Or.inl rfl) rfl, List.forall_mem_cons.mpr ⟨
  s_iload (k := 6) (show decode (cod 6) 39 = .ok (.iload 6, 2) by decide +kernel), List.forall_mem_cons.mpr ⟨
  s_aaload (show decode (cod 6) 41 = .ok (.aaload, 1) by decide +kernel), List.forall_mem_cons.mpr ⟨
  s_iload (k := 5) (show decode (cod 6) 42 = .ok (.iload 5, 2) by decide +kernel), List.forall_mem_cons.mpr ⟨
  s_iload (k := 4) (show decode (cod 6) 44 = .ok (.iload 4, 2) by decide +kernel), List.forall_mem_cons.mpr ⟨
  s_iastore (show decode (cod 6) 46 = .ok (.iastore, 1) by decide +kernel), List.forall_mem_cons.mpr ⟨
  s_aload_n (k := 0) (show decode (cod 6) 47 = .ok (.aload_n 0, 1) by decide +kernel), List.forall_mem_cons.mpr ⟨
  s_getR (show decode (cod 6) 48 = .ok (.getfield 16, 3) by decide +kernel) wd_54 (Or.inl rfl) rfl, List.forall_mem_cons.mpr ⟨
  s_iload (k := 4) (show decode (cod 6) 51 = .ok (.iload 4, 2) by decide +kernel), List.forall_mem_cons.mpr ⟨
  s_iload (k := 6) (show decode (cod 6) 53 = .ok (.iload 6, 2) by decide +kernel), List.forall_mem_cons.mpr ⟨
  s_iastore (show decode (cod 6) 55 = .ok (.iastore, 1) by decide +kernel), List.forall_mem_cons.mpr ⟨
  s_aload_n (k := 1) (show decode (cod 6) 56 = .ok (.aload_n 1, 1) by decide +kernel), List.forall_mem_cons.mpr ⟨
  s_iload (k := 4) (show decode (cod 6) 57 = .ok (.iload 4, 2) by decide +kernel), List.forall_mem_cons.mpr ⟨
  s_iload (k := 5) (show decode (cod 6) 59 = .ok (.iload 5, 2) by decide +kernel), List.forall_mem_cons.mpr ⟨
  s_iastore (show decode (cod 6) 61 = .ok (.iastore, 1) by decide +kernel), List.forall_mem_cons.mpr ⟨
  s_iinc (show decode (cod 6) 62 = .ok (.iinc 4 1, 3) by decide +kernel) rfl, List.forall_mem_cons.mpr ⟨
  s_iinc (show decode (cod 6) 65 = .ok (.iinc 6 1, 3) by decide +kernel) rfl, List.forall_mem_cons.mpr ⟨
  s_goto (show decode (cod 6) 68 = .ok (.goto (-47), 3) by decide +kernel) (by decide), List.forall_mem_cons.mpr ⟨
  s_iinc (show decode (cod 6) 71 = .ok (.iinc 5 1, 3) by decide +kernel) rfl, List.forall_mem_cons.mpr ⟨
  s_goto (show decode (cod 6) 74 = .ok (.goto (-68), 3) by decide +kernel) (by decide), List.forall_mem_cons.mpr ⟨
  s_ret (show decode (cod 6) 77 = .ok (.return_, 1) by decide +kernel) rV_ok (fun h => by cases h), fun _ h => by cases h⟩⟩⟩⟩⟩⟩⟩⟩⟩⟩⟩⟩⟩⟩⟩⟩⟩⟩⟩⟩⟩⟩⟩⟩⟩⟩⟩⟩⟩⟩⟩⟩⟩⟩⟩⟩⟩⟩⟩⟩
set_option maxRecDepth 100000 in
theorem si6 (X : CX) (l : Launch) : ∀ q ∈ pt6, SI X l 6 q.1 q.2 :=  si6_0 X l
set_option maxRecDepth 100000 in
set_option maxHeartbeats 4000000 in
theorem si7_0 (X : CX) (l : Launch) : ∀ q ∈ ([(0, iP 1 (fIld 2)), (1, iP 3 (fIst 4)), (3, iP 5 (fIld 4)), (5, iP 6 (fIld 3)), (6, iB 9 66 (b2 (fun x y => decide (y ≤ x)))), (9, iP 10 (fAld 0)), (10, iRR 13 (gtR 13)), (13, iP 15 (fIld 4)), (15, iRI 16 qAI), (16, iP 18 (fIst 5)), (18, iP 19 (fK (.inl 0))), (19, iP 21 (fIst 6)), (21, iP 23 (fIld 6)), (23, iP 25 (fIld 5)), (25, iB 28 60 (b2 (fun x y => decide (y ≤ x)))), (28, iP 29 (fAld 0)), (29, iRR 32 (gtR 12)), (32, iP 34 (fIld 6)), (34, iRR 35 qAR), (35, iP 37 (fIld 4)), (37, iP 38 (fAld 0)), (38, iP 39 (fAld 0)), (39, iP 40 (fAld 1)), (40, iP 42 (fIld 4)), (42, iRI 43 qAI), (43, iP 45 (fIld 6)), (45, iCK 48 5 8 3 3 1), (48, iP 50 (fIld 5)), (50, iCK 53 5 8 3 3 1), (53, iW 54 wAI), (54, iP 57 (fInc 6 1)), (57, iP 21 fGo), (60, iP 63 (fInc 4 1)), (63, iP 3 fGo), (66, iRet rV)] : List (Nat × AS)), SI X l 7 q.1 q.2 := List.forall_mem_cons.mpr ⟨
  s_iload_n (k := 2) (show decode (cod 7) 0 = .ok (.iload_n 2, 1) by decide +kernel), List.forall_mem_cons.mpr ⟨
  s_istore (k := 4) (show decode (cod 7) 1 = .ok (.istore 4, 2) by decide +kernel), List.forall_mem_cons.mpr ⟨
  s_iload (k := 4) (show decode (cod 7) 3 = .ok (.iload 4, 2) by decide +kernel), List.forall_mem_cons.mpr ⟨
  s_iload_n (k := 3) (show decode (cod 7) 5 = .ok (.iload_n 3, 1) by decide +kernel), List.forall_mem_cons.mpr ⟨
  s_icmpge (show decode (cod 7) 6 = .ok (.if_icmp .ge 60, 3) by decide +kernel) (by decide), List.forall_mem_cons.mpr ⟨
  s_aload_n (k := 0) (show decode (cod 7) 9 = .ok (.aload_n 0, 1) by decide +kernel), List.forall_mem_cons.mpr ⟨
  s_getR (show decode (cod 7) 10 = .ok (.getfield 16, 3) by decide +kernel) wd_54 (Or.inl rfl) rfl, List.forall_mem_cons.mpr ⟨
  s_iload (k := 4) (show decode (cod 7) 13 = .ok (.iload 4, 2) by decide +kernel), List.forall_mem_cons.mpr ⟨
  s_iaload (show decode (cod 7) 15 = .ok (.iaload, 1) by decide +kernel), List.forall_mem_cons.mpr ⟨
  s_istore (k := 5) (show decode (cod 7) 16 = .ok (.istore 5, 2) by decide +kernel), List.forall_mem_cons.mpr ⟨
  s_iconst (show decode (cod 7) 18 = .ok (.iconst 0, 1) by decide +kernel) rfl, List.forall_mem_cons.mpr ⟨
  s_istore (k := 6) (show decode (cod 7) 19 = .ok (.istore 6, 2) by decide +kernel), List.forall_mem_cons.mpr ⟨
  s_iload (k := 6) (show decode (cod 7) 21 = .ok (.iload 6, 2) by decide +kernel), List.forall_mem_cons.mpr ⟨
  s_iload (k := 5) (show decode (cod 7) 23 = .ok (.iload 5, 2) by decide +kernel), List.forall_mem_cons.mpr ⟨
  s_icmpge (show decode (cod 7) 25 = .ok (.if_icmp .ge 35, 3) by decide +kernel) (by decide), List.forall_mem_cons.mpr ⟨
  s_aload_n (k := 0) (show decode (cod 7) 28 = .ok (.aload_n 0, 1) by decide +kernel), List.forall_mem_cons.mpr ⟨
  s_getR (show decode (cod 7) 29 = .ok (.getfield 13, 3) by decide +kernel) wd_53 (Or.inl rfl) rfl, List.forall_mem_cons.mpr ⟨
  s_iload (k := 6) (show decode (cod 7) 32 = .ok (.iload 6, 2) by decide +kernel), List.forall_mem_cons.mpr ⟨
  s_aaload (show decode (cod 7) 34 = .ok (.aaload, 1) by decide +kernel), List.forall_mem_cons.mpr ⟨
  s_iload (k := 4) (show decode (cod 7) 35 = .ok (.iload 4, 2) by decide +kernel), List.forall_mem_cons.mpr ⟨
  s_aload_n (k := 0) (show decode (cod 7) 37 = .ok (.aload_n 0, 1) by decide +kernel), List.forall_mem_cons.mpr ⟨
  s_aload_n (k := 0) (show decode (cod 7) 38 = .ok (.aload_n 0, 1) by decide +kernel), List.forall_mem_cons.mpr ⟨
  s_aload_n (k := 1) (show decode (cod 7) 39 = .ok (.aload_n 1, 1) by decide +kernel), List.forall_mem_cons.mpr ⟨
  s_iload (k := 4) (show decode (cod 7) 40 = .ok (.iload 4, 2) by decide +kernel), List.forall_mem_cons.mpr ⟨
  s_iaload (show decode (cod 7) 42 = .ok (.iaload, 1) by decide +kernel), List.forall_mem_cons.mpr ⟨
  s_iload (k := 6) (show decode (cod 7) 43 = .ok (.iload 6, 2) by decide +kernel), List.forall_mem_cons.mpr ⟨
  s_invK rfl (rcv_virt (show decode (cod 7) 45 = .ok (.invokevirtual 36, 3) by decide +kernel) cld_7_8 ⟨4, _, _, rfl, by decide, rfl⟩ wd_69 wd_70 wd_71), List.forall_mem_cons.mpr ⟨
  s_iload (k := 5) (show decode (cod 7) 48 = .ok (.iload 5, 2) by decide +kernel), List.forall_mem_cons.mpr ⟨
  s_invK rfl (rcv_virt (show decode (cod 7) 50 = .ok (.invokevirtual 36, 3) by decide +kernel) cld_7_8 ⟨4, _, _, rfl, by decide, rfl⟩ wd_69 wd_70 wd_71), List.forall_mem_cons.mpr ⟨
  s_iastore (show decode (cod 7) 53 = .ok (.iastore, 1) by decide +kernel), List.forall_mem_cons.mpr ⟨
  s_iinc (show decode (cod 7) 54 = .ok (.iinc 6 1, 3) by decide +kernel) rfl, List.forall_mem_cons.mpr ⟨
  s_goto (show decode (cod 7) 57 = .ok (.goto (-36), 3) by decide +kernel) (by decide), List.forall_mem_cons.mpr ⟨
  s_iinc (show decode (cod 7) 60 = .ok (.iinc 4 1, 3) by decide +kernel) rfl, List.forall_mem_cons.mpr ⟨
  s_goto (show decode (cod 7) 63 = .ok (.goto (-60), 3) by decide +kernel) (by decide), List.forall_mem_cons.mpr ⟨
  s_ret (show decode (cod 7) 66 = .ok (.return_, 1) by decide +kernel) rV_ok (fun h => by cases h), fun _ h => by cases h⟩⟩⟩⟩⟩⟩⟩⟩⟩⟩⟩⟩⟩⟩⟩⟩⟩⟩⟩⟩⟩⟩⟩⟩⟩⟩⟩⟩⟩⟩⟩⟩⟩⟩⟩
set_option maxRecDepth 100000 in
theorem si7 (X : CX) (l : Launch) : ∀ q ∈ pt7, SI X l 7 q.1 q.2 :=  si7_0 X l
set_option maxRecDepth 100000 in
set_option maxHeartbeats 4000000 in
theorem si8_0 (X : CX) (l : Launch) : ∀ q ∈ ([(0, iP 1 (fIld 1)), (1, iB 4 20 (b1 (fun x => decide (x < 0)))), (4, iP 5 (fIld 1)), (5, iP 8 (fK (.inl 252))), (8, iB 11 20 (b2 (fun x y => decide (y ≤ x)))), (11, iP 12 (fIld 2)), (12, iB 15 20 (b1 (fun x => decide (x < 0)))), (15, iP 16 (fIld 2)), (16, iP 17 (fK (.inl 5))), (17, iB 20 22 (b2 (fun x y => decide (x < y)))), (20, iP 21 (fK (.inl (-1)))), (21, iRet rI), (22, iP 23 (fAld 0)), (23, iRR 26 (gtR 12)), (26, iP 27 (fIld 2)), (27, iRR 28 qAR), (28, iP 29 (fIld 1)), (29, iRI 30 qAI), (30, iRet rI)] : List (Nat × AS)), SI X l 8 q.1 q.2 := List.forall_mem_cons.mpr ⟨
  s_iload_n (k := 1) (show decode (cod 8) 0 = .ok (.iload_n 1, 1) by decide +kernel), List.forall_mem_cons.mpr ⟨
  s_iflt (show decode (cod 8) 1 = .ok (.ifCond .lt 19, 3) by decide +kernel) (by decide), List.forall_mem_cons.mpr ⟨
  s_iload_n (k := 1) (show decode (cod 8) 4 = .ok (.iload_n 1, 1) by decide +kernel), List.forall_mem_cons.mpr ⟨
  s_sipush (show decode (cod 8) 5 = .ok (.sipush 252, 3) by decide +kernel) rfl, List.forall_mem_cons.mpr ⟨
  s_icmpge (show decode (cod 8) 8 = .ok (.if_icmp .ge 12, 3) by decide +kernel) (by decide), List.forall_mem_cons.mpr ⟨
  s_iload_n (k := 2) (show decode (cod 8) 11 = .ok (.iload_n 2, 1) by decide +kernel), List.forall_mem_cons.mpr ⟨
  s_iflt (show decode (cod 8) 12 = .ok (.ifCond .lt 8, 3) by decide +kernel) (by decide), List.forall_mem_cons.mpr ⟨
  s_iload_n (k := 2) (show decode (cod 8) 15 = .ok (.iload_n 2, 1) by decide +kernel), List.forall_mem_cons.mpr ⟨
  s_iconst (show decode (cod 8) 16 = .ok (.iconst 5, 1) by decide +kernel) rfl, List.forall_mem_cons.mpr ⟨
  s_icmplt (show decode (cod 8) 17 = .ok (.if_icmp .lt 5, 3) by decide +kernel) (by decide), List.forall_mem_cons.mpr ⟨
  s_iconst (show decode (cod 8) 20 = .ok (.iconst (-1), 1) by decide +kernel) rfl, List.forall_mem_cons.mpr ⟨
  s_ret (show decode (cod 8) 21 = .ok (.ireturn, 1) by decide +kernel) rI_ok (fun h => by cases h), List.forall_mem_cons.mpr ⟨
  s_aload_n (k := 0) (show decode (cod 8) 22 = .ok (.aload_n 0, 1) by decide +kernel), List.forall_mem_cons.mpr ⟨
  s_getR (show decode (cod 8) 23 = .ok (.getfield 13, 3) by decide +kernel) wd_53 (Or.inl rfl) rfl, List.forall_mem_cons.mpr ⟨
  s_iload_n (k := 2) (show decode (cod 8) 26 = .ok (.iload_n 2, 1) by decide +kernel), List.forall_mem_cons.mpr ⟨
  s_aaload (show decode (cod 8) 27 = .ok (.aaload, 1) by decide +kernel), List.forall_mem_cons.mpr ⟨
  s_iload_n (k := 1) (show decode (cod 8) 28 = .ok (.iload_n 1, 1) by decide +kernel), List.forall_mem_cons.mpr ⟨
  s_iaload (show decode (cod 8) 29 = .ok (.iaload, 1) by decide +kernel), List.forall_mem_cons.mpr ⟨
  s_ret (show decode (cod 8) 30 = .ok (.ireturn, 1) by decide +kernel) rI_ok (fun h => by cases h), fun _ h => by cases h⟩⟩⟩⟩⟩⟩⟩⟩⟩⟩⟩⟩⟩⟩⟩⟩⟩⟩⟩
set_option maxRecDepth 100000 in
theorem si8 (X : CX) (l : Launch) : ∀ q ∈ pt8, SI X l 8 q.1 q.2 :=  si8_0 X l
set_option maxRecDepth 100000 in
set_option maxHeartbeats 4000000 in
theorem si9_0 (X : CX) (l : Launch) : ∀ q ∈ ([(0, iP 1 (fAld 0)), (1, iW 4 wObj), (4, iP 5 (fAld 0)), (5, iP 6 (fK (.inl 1))), (6, iW 9 (ptI 33)), (9, iP 10 (fAld 0)), (10, iP 11 (fK (.inl 0))), (11, iW 14 (ptI 34)), (14, iP 15 (fAld 0)), (15, iP 16 (fK (.inl 0))), (16, iW 19 (ptI 35)), (19, iP 20 (fAld 0)), (20, iP 21 (fK (.inl 0))), (21, iW 24 (ptI 36)), (24, iP 25 (fAld 0)), (25, iP 26 (fK (.inl 0))), (26, iW 29 (ptZ 37)), (29, iP 30 (fAld 0)), (30, iP 31 (fK (.inr (.inr 0)))), (31, iW 34 (ptR 38)), (34, iP 35 (fAld 0)), (35, iP 36 (fK (.inl 0))), (36, iW 39 (ptI 39)), (39, iRet rV)] : List (Nat × AS)), SI X l 9 q.1 q.2 := List.forall_mem_cons.mpr ⟨
  s_aload_n (k := 0) (show decode (cod 9) 0 = .ok (.aload_n 0, 1) by decide +kernel), List.forall_mem_cons.mpr ⟨
  s_objInit (show decode (cod 9) 1 = .ok (.invokespecial 3, 3) by decide +kernel) wd_72 wd_1 wd_2 (by decide), List.forall_mem_cons.mpr ⟨
  s_aload_n (k := 0) (show decode (cod 9) 4 = .ok (.aload_n 0, 1) by decide +kernel), List.forall_mem_cons.mpr ⟨
  s_iconst (show decode (cod 9) 5 = .ok (.iconst 1, 1) by decide +kernel) rfl, List.forall_mem_cons.mpr ⟨
  s_putI (show decode (cod 9) 6 = .ok (.putfield 9, 3) by decide +kernel) wd_73 (Or.inl rfl) (Or.inl rfl) rfl, List.forall_mem_cons.mpr ⟨
  s_aload_n (k := 0) (show decode (cod 9) 9 = .ok (.aload_n 0, 1) by decide +kernel), List.forall_mem_cons.mpr ⟨
  s_iconst (show decode (cod 9) 10 = .ok (.iconst 0, 1) by decide +kernel) rfl, List.forall_mem_cons.mpr ⟨
  s_putI (show decode (cod 9) 11 = .ok (.putfield 15, 3) by decide +kernel) wd_74 (Or.inl rfl) (Or.inl rfl) rfl, List.forall_mem_cons.mpr ⟨
  s_aload_n (k := 0) (show decode (cod 9) 14 = .ok (.aload_n 0, 1) by decide +kernel), List.forall_mem_cons.mpr ⟨
  s_iconst (show decode (cod 9) 15 = .ok (.iconst 0, 1) by decide +kernel) rfl, List.forall_mem_cons.mpr ⟨
  s_putI (show decode (cod 9) 16 = .ok (.putfield 18, 3) by decide +kernel) wd_75 (Or.inl rfl) (Or.inl rfl) rfl, List.forall_mem_cons.mpr ⟨
  s_aload_n (k := 0) (show decode (cod 9) 19 = .ok (.aload_n 0, 1) by decide +kernel), List.forall_mem_cons.mpr ⟨
  s_iconst (show decode (cod 9) 20 = .ok (.iconst 0, 1) by decide +kernel) rfl, List.forall_mem_cons.mpr ⟨
  s_putI (show decode (cod 9) 21 = .ok (.putfield 21, 3) by decide +kernel) wd_76 (Or.inl rfl) (Or.inl rfl) rfl, List.forall_mem_cons.mpr ⟨
  s_aload_n (k := 0) (show decode (cod 9) 24 = .ok (.aload_n 0, 1) by decide +kernel), List.forall_mem_cons.mpr ⟨
  s_iconst (show decode (cod 9) 25 = .ok (.iconst 0, 1) by decide +kernel) rfl, List.forall_mem_cons.mpr ⟨
  s_putZ (show decode (cod 9) 26 = .ok (.putfield 24, 3) by decide +kernel) wd_77 (Or.inl rfl) (Or.inl rfl) rfl, List.forall_mem_cons.mpr ⟨
  s_aload_n (k := 0) (show decode (cod 9) 29 = .ok (.aload_n 0, 1) by decide +kernel), List.forall_mem_cons.mpr ⟨
  s_null (show decode (cod 9) 30 = .ok (.aconst_null, 1) by decide +kernel), List.forall_mem_cons.mpr ⟨
  s_putR (show decode (cod 9) 31 = .ok (.putfield 28, 3) by decide +kernel) wd_78 (Or.inl rfl) (Or.inl rfl) rfl, List.forall_mem_cons.mpr ⟨
  s_aload_n (k := 0) (show decode (cod 9) 34 = .ok (.aload_n 0, 1) by decide +kernel), List.forall_mem_cons.mpr ⟨
  s_iconst (show decode (cod 9) 35 = .ok (.iconst 0, 1) by decide +kernel) rfl, List.forall_mem_cons.mpr ⟨
  s_putI (show decode (cod 9) 36 = .ok (.putfield 32, 3) by decide +kernel) wd_79 (Or.inl rfl) (Or.inl rfl) rfl, List.forall_mem_cons.mpr ⟨
  s_ret (show decode (cod 9) 39 = .ok (.return_, 1) by decide +kernel) rV_ok (fun h => by cases h), fun _ h => by cases h⟩⟩⟩⟩⟩⟩⟩⟩⟩⟩⟩⟩⟩⟩⟩⟩⟩⟩⟩⟩⟩⟩⟩⟩
set_option maxRecDepth 100000 in
theorem si9 (X : CX) (l : Launch) : ∀ q ∈ pt9, SI X l 9 q.1 q.2 :=  si9_0 X l
set_option maxRecDepth 100000 in
set_option maxHeartbeats 4000000 in
theorem si10_0 (X : CX) (l : Launch) : ∀ q ∈ ([(0, iP 1 (fAld 0)), (1, iW 4 wObj), (4, iP 5 (fAld 0)), (5, iP 7 (fK (.inl 24))), (7, iW 10 (wNa 23)), (10, iW 13 (ptR 22)), (13, iP 14 (fAld 0)), (14, iP 15 (fK (.inl 0))), (15, iW 18 (ptI 23)), (18, iP 19 (fAld 0)), (19, iP 21 (fK (.inl 24))), (21, iW 23 (wNa 20)), (23, iW 26 (ptR 24)), (26, iP 27 (fAld 0)), (27, iP 28 (fK (.inl 0))), (28, iW 31 (ptI 25)), (31, iP 32 (fAld 0)), (32, iP 33 (fK (.inl 0))), (33, iW 36 (ptI 26)), (36, iP 37 (fAld 0)), (37, iP 38 (fK (.inl 2))), (38, iP 40 (fK (.inl 36))), (40, iW 44 (wMu 26 21)), (44, iW 47 (ptR 27)), (47, iP 48 (fAld 0)), (48, iP 49 (fK (.inl 2))), (49, iW 51 (wNa 20)), (51, iW 54 (ptR 28)), (54, iP 55 (fAld 0)), (55, iP 56 (fK (.inl 5))), (56, iW 58 (wNa 21)), (58, iW 61 (ptR 29)), (61, iP 62 (fAld 0)), (62, iP 63 (fK (.inl 5))), (63, iW 65 (wNa 21)), (65, iW 68 (ptR 30)), (68, iP 69 (fAld 0)), (69, iP 70 (fK (.inr (.inr 0)))), (70, iW 73 (ptR 31)), (73, iP 74 (fAld 0))] : List (Nat × AS)), SI X l 10 q.1 q.2 := List.forall_mem_cons.mpr ⟨
  s_aload_n (k := 0) (show decode (cod 10) 0 = .ok (.aload_n 0, 1) by decide +kernel), List.forall_mem_cons.mpr ⟨
  s_objInit (show decode (cod 10) 1 = .ok (.invokespecial 3, 3) by decide +kernel) wd_80 wd_1 wd_2 (by decide), List.forall_mem_cons.mpr ⟨
  s_aload_n (k := 0) (show decode (cod 10) 4 = .ok (.aload_n 0, 1) by decide +kernel), List.forall_mem_cons.mpr ⟨
  s_bipush (show decode (cod 10) 5 = .ok (.bipush 24, 2) by decide +kernel) rfl, List.forall_mem_cons.mpr ⟨
  s_anew (show decode (cod 10) 7 = .ok (.anewarray 9, 3) by decide +kernel) (by decide) wd_81, List.forall_mem_cons.mpr ⟨
  s_putR (show decode (cod 10) 10 = .ok (.putfield 11, 3) by decide +kernel) wd_82 (Or.inl rfl) (Or.inr ⟨rfl, rfl, rfl⟩) rfl, List.forall_mem_cons.mpr ⟨
  s_aload_n (k := 0) (show decode (cod 10) 13 = .ok (.aload_n 0, 1) by decide +kernel), List.forall_mem_cons.mpr ⟨
  s_iconst (show decode (cod 10) 14 = .ok (.iconst 0, 1) by decide +kernel) rfl, List.forall_mem_cons.mpr ⟨
  s_putI (show decode (cod 10) 15 = .ok (.putfield 17, 3) by decide +kernel) wd_83 (Or.inl rfl) (Or.inl rfl) rfl, List.forall_mem_cons.mpr ⟨
  s_aload_n (k := 0) (show decode (cod 10) 18 = .ok (.aload_n 0, 1) by decide +kernel), List.forall_mem_cons.mpr ⟨
  s_bipush (show decode (cod 10) 19 = .ok (.bipush 24, 2) by decide +kernel) rfl, List.forall_mem_cons.mpr ⟨
  s_newarr (show decode (cod 10) 21 = .ok (.newarray .int, 2) by decide +kernel) (by decide) rfl wd_6, List.forall_mem_cons.mpr ⟨
  s_putR (show decode (cod 10) 23 = .ok (.putfield 21, 3) by decide +kernel) wd_84 (Or.inl rfl) (Or.inr ⟨rfl, rfl, rfl⟩) rfl, List.forall_mem_cons.mpr ⟨
  s_aload_n (k := 0) (show decode (cod 10) 26 = .ok (.aload_n 0, 1) by decide +kernel), List.forall_mem_cons.mpr ⟨
  s_iconst (show decode (cod 10) 27 = .ok (.iconst 0, 1) by decide +kernel) rfl, List.forall_mem_cons.mpr ⟨
  s_putI (show decode (cod 10) 28 = .ok (.putfield 25, 3) by decide +kernel) wd_85 (Or.inl rfl) (Or.inl rfl) rfl, List.forall_mem_cons.mpr ⟨
  s_aload_n (k := 0) (show decode (cod 10) 31 = .ok (.aload_n 0, 1) by decide +kernel), List.forall_mem_cons.mpr ⟨
  s_iconst (show decode (cod 10) 32 = .ok (.iconst 0, 1) by decide +kernel) rfl, List.forall_mem_cons.mpr ⟨
  s_putI (show decode (cod 10) 33 = .ok (.putfield 28, 3) by decide +kernel) wd_86 (Or.inl rfl) (Or.inl rfl) rfl, List.forall_mem_cons.mpr ⟨
  s_aload_n (k := 0) (show decode (cod 10) 36 = .ok (.aload_n 0, 1) by decide +kernel), List.forall_mem_cons.mpr ⟨
  s_iconst (show decode (cod 10) 37 = .ok (.iconst 2, 1) by decide +kernel) rfl, List.forall_mem_cons.mpr ⟨
  s_bipush (show decode (cod 10) 38 = .ok (.bipush 36, 2) by decide +kernel) rfl, List.forall_mem_cons.mpr ⟨
  s_multi (show decode (cod 10) 40 = .ok (.multianewarray 31 2, 4) by decide +kernel) (by decide) wd_87 wd_44, List.forall_mem_cons.mpr ⟨
  s_putR (show decode (cod 10) 44 = .ok (.putfield 33, 3) by decide +kernel) wd_88 (Or.inl rfl) (Or.inr ⟨rfl, rfl, rfl⟩) rfl, List.forall_mem_cons.mpr ⟨
  s_aload_n (k := 0) (show decode (cod 10) 47 = .ok (.aload_n 0, 1) by decide +kernel), List.forall_mem_cons.mpr ⟨
  s_iconst (show decode (cod 10) 48 = .ok (.iconst 2, 1) by decide +kernel) rfl, List.forall_mem_cons.mpr ⟨
  s_newarr (show decode (cod 10) 49 = .ok (.newarray .int, 2) by decide +kernel) (by decide) rfl wd_6, List.forall_mem_cons.mpr ⟨
  s_putR (show decode (cod 10) 51 = .ok (.putfield 36, 3) by decide +kernel) wd_89 (Or.inl rfl) (Or.inr ⟨rfl, rfl, rfl⟩) rfl, List.forall_mem_cons.mpr ⟨
  s_aload_n (k := 0) (show decode (cod 10) 54 = .ok (.aload_n 0, 1) by decide +kernel), List.forall_mem_cons.mpr ⟨
  s_iconst (show decode (cod 10) 55 = .ok (.iconst 5, 1) by decide +kernel) rfl, List.forall_mem_cons.mpr ⟨
  s_newarr (show decode (cod 10) 56 = .ok (.newarray .long, 2) by decide +kernel) (by decide) rfl wd_44, List.forall_mem_cons.mpr ⟨
  s_putR (show decode (cod 10) 58 = .ok (.putfield 39, 3) by decide +kernel) wd_90 (Or.inl rfl) (Or.inr ⟨rfl, rfl, rfl⟩) rfl, List.forall_mem_cons.mpr ⟨
  s_aload_n (k := 0) (show decode (cod 10) 61 = .ok (.aload_n 0, 1) by decide +kernel), List.forall_mem_cons.mpr ⟨
  s_iconst (show decode (cod 10) 62 = .ok (.iconst 5, 1) by decide +kernel) rfl, List.forall_mem_cons.mpr ⟨
  s_newarr (show decode (cod 10) 63 = .ok (.newarray .long, 2) by decide +kernel) (by decide) rfl wd_44, List.forall_mem_cons.mpr ⟨
  s_putR (show decode (cod 10) 65 = .ok (.putfield 43, 3) by decide +kernel) wd_91 (Or.inl rfl) (Or.inr ⟨rfl, rfl, rfl⟩) rfl, List.forall_mem_cons.mpr ⟨
  s_aload_n (k := 0) (show decode (cod 10) 68 = .ok (.aload_n 0, 1) by decide +kernel), List.forall_mem_cons.mpr ⟨
  s_null (show decode (cod 10) 69 = .ok (.aconst_null, 1) by decide +kernel), List.forall_mem_cons.mpr ⟨
  s_putR (show decode (cod 10) 70 = .ok (.putfield 46, 3) by decide +kernel) wd_92 (Or.inl rfl) (Or.inl rfl) rfl, List.forall_mem_cons.mpr ⟨
  s_aload_n (k := 0) (show decode (cod 10) 73 = .ok (.aload_n 0, 1) by decide +kernel), fun _ h => by cases h⟩⟩⟩⟩⟩⟩⟩⟩⟩⟩⟩⟩⟩⟩⟩⟩⟩⟩⟩⟩⟩⟩⟩⟩⟩⟩⟩⟩⟩⟩⟩⟩⟩⟩⟩⟩⟩⟩⟩⟩
set_option maxRecDepth 100000 in
set_option maxHeartbeats 4000000 in
theorem si10_1 (X : CX) (l : Launch) : ∀ q ∈ ([(74, iP 75 (fK (.inl 0))), (75, iW 78 (ptI 32)), (78, iP 79 (fAld 0)), (79, iP 80 (fIld 1)), (80, iW 83 (ptI 21)), (83, iRet rV)] : List (Nat × AS)), SI X l 10 q.1 q.2 := List.forall_mem_cons.mpr ⟨
  s_iconst (show decode (cod 10) 74 = .ok (.iconst 0, 1) by decide +kernel) rfl, List.forall_mem_cons.mpr ⟨
  s_putI (show decode (cod 10) 75 = .ok (.putfield 50, 3) by decide +kernel) wd_93 (Or.inl rfl) (Or.inl rfl) rfl, List.forall_mem_cons.mpr ⟨
  s_aload_n (k := 0) (show decode (cod 10) 78 = .ok (.aload_n 0, 1) by decide +kernel), List.forall_mem_cons.mpr ⟨
  s_iload_n (k := 1) (show decode (cod 10) 79 = .ok (.iload_n 1, 1) by decide +kernel), List.forall_mem_cons.mpr ⟨
  s_putI (show decode (cod 10) 80 = .ok (.putfield 53, 3) by decide +kernel) wd_94 (Or.inl rfl) (Or.inr ⟨rfl, rfl, rfl⟩) rfl, List.forall_mem_cons.mpr ⟨
  s_ret (show decode (cod 10) 83 = .ok (.return_, 1) by decide +kernel) rV_ok (fun h => by cases h), fun _ h => by cases h⟩⟩⟩⟩⟩⟩
set_option maxRecDepth 100000 in
theorem si10 (X : CX) (l : Launch) : ∀ q ∈ pt10, SI X l 10 q.1 q.2 := (List.forall_mem_append (l₁ := _) (l₂ := _)).mpr ⟨si10_0 X l, si10_1 X l⟩
set_option maxRecDepth 100000 in
set_option maxHeartbeats 4000000 in
theorem si11_0 (X : CX) (l : Launch) : ∀ q ∈ ([(0, iP 1 (fAld 0)), (1, iRI 4 (gtI 44)), (4, iP 6 (fK (.inl 8))), (6, iB 9 12 (b2 (fun x y => decide (x < y)))), (9, iP 11 (fK (.inl (-1000003)))), (11, iRet rI), (12, iP 13 (fAld 0)), (13, iP 14 fDup), (14, iRI 17 (gtI 44)), (17, iP 18 (fK (.inl 1))), (18, iP 19 (f2I (fun x y => x + y))), (19, iW 22 (ptI 44)), (22, iP 23 (fAld 0)), (23, iRI 26 (gtI 44)), (26, iP 27 (fK (.inl 1))), (27, iP 28 (f2I (fun x y => x - y))), (28, iRet rI)] : List (Nat × AS)), SI X l 11 q.1 q.2 := List.forall_mem_cons.mpr ⟨
  s_aload_n (k := 0) (show decode (cod 11) 0 = .ok (.aload_n 0, 1) by decide +kernel), List.forall_mem_cons.mpr ⟨
  s_getI (show decode (cod 11) 1 = .ok (.getfield 15, 3) by decide +kernel) wd_5 (Or.inl rfl) (Or.inl rfl), List.forall_mem_cons.mpr ⟨
  s_bipush (show decode (cod 11) 4 = .ok (.bipush 8, 2) by decide +kernel) rfl, List.forall_mem_cons.mpr ⟨
  s_icmplt (show decode (cod 11) 6 = .ok (.if_icmp .lt 6, 3) by decide +kernel) (by decide), List.forall_mem_cons.mpr ⟨
  s_ldc (show decode (cod 11) 9 = .ok (.ldc 50, 2) by decide +kernel) wd_95, List.forall_mem_cons.mpr ⟨
  s_ret (show decode (cod 11) 11 = .ok (.ireturn, 1) by decide +kernel) rI_ok (fun h => by cases h), List.forall_mem_cons.mpr ⟨
  s_aload_n (k := 0) (show decode (cod 11) 12 = .ok (.aload_n 0, 1) by decide +kernel), List.forall_mem_cons.mpr ⟨
  s_dup (show decode (cod 11) 13 = .ok (.dup, 1) by decide +kernel), List.forall_mem_cons.mpr ⟨
  s_getI (show decode (cod 11) 14 = .ok (.getfield 15, 3) by decide +kernel) wd_5 (Or.inl rfl) (Or.inl rfl), List.forall_mem_cons.mpr ⟨
  s_iconst (show decode (cod 11) 17 = .ok (.iconst 1, 1) by decide +kernel) rfl, List.forall_mem_cons.mpr ⟨
  s_iadd (show decode (cod 11) 18 = .ok (.iadd, 1) by decide +kernel), List.forall_mem_cons.mpr ⟨
  s_putI (show decode (cod 11) 19 = .ok (.putfield 15, 3) by decide +kernel) wd_5 (Or.inl rfl) (Or.inl rfl) rfl, List.forall_mem_cons.mpr ⟨
  s_aload_n (k := 0) (show decode (cod 11) 22 = .ok (.aload_n 0, 1) by decide +kernel), List.forall_mem_cons.mpr ⟨
  s_getI (show decode (cod 11) 23 = .ok (.getfield 15, 3) by decide +kernel) wd_5 (Or.inl rfl) (Or.inl rfl), List.forall_mem_cons.mpr ⟨
  s_iconst (show decode (cod 11) 26 = .ok (.iconst 1, 1) by decide +kernel) rfl, List.forall_mem_cons.mpr ⟨
  s_isub (show decode (cod 11) 27 = .ok (.isub, 1) by decide +kernel), List.forall_mem_cons.mpr ⟨
  s_ret (show decode (cod 11) 28 = .ok (.ireturn, 1) by decide +kernel) rI_ok (fun h => by cases h), fun _ h => by cases h⟩⟩⟩⟩⟩⟩⟩⟩⟩⟩⟩⟩⟩⟩⟩⟩⟩
set_option maxRecDepth 100000 in
theorem si11 (X : CX) (l : Launch) : ∀ q ∈ pt11, SI X l 11 q.1 q.2 :=  si11_0 X l
set_option maxRecDepth 100000 in
set_option maxHeartbeats 4000000 in
theorem si12_0 (X : CX) (l : Launch) : ∀ q ∈ ([(0, iP 1 (fIld 2)), (1, iC 4 13 1 1 1), (4, iB 7 50 (b1 (fun x => decide (x = 0)))), (7, iP 8 (fIld 3)), (8, iC 11 13 1 1 1), (11, iB 14 50 (b1 (fun x => decide (x = 0)))), (14, iP 16 (fIld 4)), (16, iC 19 13 1 1 1), (19, iB 22 50 (b1 (fun x => decide (x = 0)))), (22, iP 24 (fIld 5)), (24, iC 27 13 1 1 1), (27, iB 30 50 (b1 (fun x => decide (x = 0)))), (30, iP 32 (fIld 6)), (32, iC 35 13 1 1 1), (35, iB 38 50 (b1 (fun x => decide (x = 0)))), (38, iP 40 (fIld 7)), (40, iC 43 13 1 1 1), (43, iB 46 50 (b1 (fun x => decide (x = 0)))), (46, iP 47 (fK (.inl 1))), (47, iP 51 fGo), (50, iP 51 (fK (.inl 0))), (51, iP 53 (fIst 8)), (53, iP 54 (fIld 1)), (54, iB 57 67 (b1 (fun x => decide (x < 0)))), (57, iP 58 (fIld 1)), (58, iP 59 (fK (.inl 1))), (59, iB 62 67 (b2 (fun x y => decide (y < x)))), (62, iP 64 (fIld 8)), (64, iB 67 70 (b1 (fun x => decide (x ≠ 0)))), (67, iP 69 (fK (.inl (-1000001)))), (69, iRet rI), (70, iP 71 (fIld 1)), (71, iB 74 81 (b1 (fun x => decide (x ≠ 0)))), (74, iP 75 (fAld 0)), (75, iRR 78 (gtR 45)), (78, iP 85 fGo), (81, iP 82 (fAld 0)), (82, iRR 85 (gtR 46)), (85, iP 87 (fAst 9)), (87, iP 89 (fAld 9))] : List (Nat × AS)), SI X l 12 q.1 q.2 := List.forall_mem_cons.mpr ⟨
  s_iload_n (k := 2) (show decode (cod 12) 0 = .ok (.iload_n 2, 1) by decide +kernel), List.forall_mem_cons.mpr ⟨
  s_invS (show decode (cod 12) 1 = .ok (.invokestatic 51, 3) by decide +kernel) rfl cld_12_13 wd_98 wd_99, List.forall_mem_cons.mpr ⟨
  s_ifeq (show decode (cod 12) 4 = .ok (.ifCond .eq 46, 3) by decide +kernel) (by decide), List.forall_mem_cons.mpr ⟨
  s_iload_n (k := 3) (show decode (cod 12) 7 = .ok (.iload_n 3, 1) by decide +kernel), List.forall_mem_cons.mpr ⟨
  s_invS (show decode (cod 12) 8 = .ok (.invokestatic 51, 3) by decide +kernel) rfl cld_12_13 wd_98 wd_99, List.forall_mem_cons.mpr ⟨
  s_ifeq (show decode (cod 12) 11 = .ok (.ifCond .eq 39, 3) by decide +kernel) (by decide), List.forall_mem_cons.mpr ⟨
  s_iload (k := 4) (show decode (cod 12) 14 = .ok (.iload 4, 2) by decide +kernel), List.forall_mem_cons.mpr ⟨
  s_invS (show decode (cod 12) 16 = .ok (.invokestatic 51, 3) by decide +kernel) rfl cld_12_13 wd_98 wd_99, List.forall_mem_cons.mpr ⟨
  s_ifeq (show decode (cod 12) 19 = .ok (.ifCond .eq 31, 3) by decide +kernel) (by decide), List.forall_mem_cons.mpr ⟨
  s_iload (k := 5) (show decode (cod 12) 22 = .ok (.iload 5, 2) by decide +kernel), List.forall_mem_cons.mpr ⟨
  s_invS (show decode (cod 12) 24 = .ok (.invokestatic 51, 3) by decide +kernel) rfl cld_12_13 wd_98 wd_99, List.forall_mem_cons.mpr ⟨
  s_ifeq (show decode (cod 12) 27 = .ok (.ifCond .eq 23, 3) by decide +kernel) (by decide), List.forall_mem_cons.mpr ⟨
  s_iload (k := 6) (show decode (cod 12) 30 = .ok (.iload 6, 2) by decide +kernel), List.forall_mem_cons.mpr ⟨
  s_invS (show decode (cod 12) 32 = .ok (.invokestatic 51, 3) by decide +kernel) rfl cld_12_13 wd_98 wd_99, List.forall_mem_cons.mpr ⟨
  s_ifeq (show decode (cod 12) 35 = .ok (.ifCond .eq 15, 3) by decide +kernel) (by decide), List.forall_mem_cons.mpr ⟨
  s_iload (k := 7) (show decode (cod 12) 38 = .ok (.iload 7, 2) by decide +kernel), List.forall_mem_cons.mpr ⟨
  s_invS (show decode (cod 12) 40 = .ok (.invokestatic 51, 3) by decide +kernel) rfl cld_12_13 wd_98 wd_99, List.forall_mem_cons.mpr ⟨
  s_ifeq (show decode (cod 12) 43 = .ok (.ifCond .eq 7, 3) by decide +kernel) (by decide), List.forall_mem_cons.mpr ⟨
  s_iconst (show decode (cod 12) 46 = .ok (.iconst 1, 1) by decide +kernel) rfl, List.forall_mem_cons.mpr ⟨
  s_goto (show decode (cod 12) 47 = .ok (.goto 4, 3) by decide +kernel) (by decide), List.forall_mem_cons.mpr ⟨
  s_iconst (show decode (cod 12) 50 = .ok (.iconst 0, 1) by decide +kernel) rfl, List.forall_mem_cons.mpr ⟨
  s_istore (k := 8) (show decode (cod 12) 51 = .ok (.istore 8, 2) by decide +kernel), List.forall_mem_cons.mpr ⟨
  s_iload_n (k := 1) (show decode (cod 12) 53 = .ok (.iload_n 1, 1) by decide +kernel), List.forall_mem_cons.mpr ⟨
  s_iflt (show decode (cod 12) 54 = .ok (.ifCond .lt 13, 3) by decide +kernel) (by decide), List.forall_mem_cons.mpr ⟨
  s_iload_n (k := 1) (show decode (cod 12) 57 = .ok (.iload_n 1, 1) by decide +kernel), List.forall_mem_cons.mpr ⟨
  s_iconst (show decode (cod 12) 58 = .ok (.iconst 1, 1) by decide +kernel) rfl, List.forall_mem_cons.mpr ⟨
  s_icmpgt (show decode (cod 12) 59 = .ok (.if_icmp .gt 8, 3) by decide +kernel) (by decide), List.forall_mem_cons.mpr ⟨
  s_iload (k := 8) (show decode (cod 12) 62 = .ok (.iload 8, 2) by decide +kernel), List.forall_mem_cons.mpr ⟨
  s_ifne (show decode (cod 12) 64 = .ok (.ifCond .ne 6, 3) by decide +kernel) (by decide), List.forall_mem_cons.mpr ⟨
  s_ldc (show decode (cod 12) 67 = .ok (.ldc 55, 2) by decide +kernel) wd_100, List.forall_mem_cons.mpr ⟨
  s_ret (show decode (cod 12) 69 = .ok (.ireturn, 1) by decide +kernel) rI_ok (fun h => by cases h), List.forall_mem_cons.mpr ⟨
  s_iload_n (k := 1) (show decode (cod 12) 70 = .ok (.iload_n 1, 1) by decide +kernel), List.forall_mem_cons.mpr ⟨
  s_ifne (show decode (cod 12) 71 = .ok (.ifCond .ne 10, 3) by decide +kernel) (by decide), List.forall_mem_cons.mpr ⟨
  s_aload_n (k := 0) (show decode (cod 12) 74 = .ok (.aload_n 0, 1) by decide +kernel), List.forall_mem_cons.mpr ⟨
  s_getR (show decode (cod 12) 75 = .ok (.getfield 19, 3) by decide +kernel) wd_7 (Or.inl rfl) rfl, List.forall_mem_cons.mpr ⟨
  s_goto (show decode (cod 12) 78 = .ok (.goto 7, 3) by decide +kernel) (by decide), List.forall_mem_cons.mpr ⟨
  s_aload_n (k := 0) (show decode (cod 12) 81 = .ok (.aload_n 0, 1) by decide +kernel), List.forall_mem_cons.mpr ⟨
  s_getR (show decode (cod 12) 82 = .ok (.getfield 23, 3) by decide +kernel) wd_8 (Or.inl rfl) rfl, List.forall_mem_cons.mpr ⟨
  s_astore (k := 9) (show decode (cod 12) 85 = .ok (.astore 9, 2) by decide +kernel), List.forall_mem_cons.mpr ⟨
  s_aload (k := 9) (show decode (cod 12) 87 = .ok (.aload 9, 2) by decide +kernel), fun _ h => by cases h⟩⟩⟩⟩⟩⟩⟩⟩⟩⟩⟩⟩⟩⟩⟩⟩⟩⟩⟩⟩⟩⟩⟩⟩⟩⟩⟩⟩⟩⟩⟩⟩⟩⟩⟩⟩⟩⟩⟩⟩
set_option maxRecDepth 100000 in
set_option maxHeartbeats 4000000 in
theorem si12_1 (X : CX) (l : Launch) : ∀ q ∈ ([(89, iP 90 (fK (.inl 0))), (90, iP 91 (fIld 2)), (91, iW 92 wAI), (92, iP 94 (fAld 9)), (94, iP 95 (fK (.inl 1))), (95, iP 96 (fIld 3)), (96, iW 97 wAI), (97, iP 99 (fAld 9)), (99, iP 100 (fK (.inl 2))), (100, iP 102 (fIld 4)), (102, iW 103 wAI), (103, iP 105 (fAld 9)), (105, iP 106 (fK (.inl 3))), (106, iP 108 (fIld 5)), (108, iW 109 wAI), (109, iP 111 (fAld 9)), (111, iP 112 (fK (.inl 4))), (112, iP 114 (fIld 6)), (114, iW 115 wAI), (115, iP 117 (fAld 9)), (117, iP 118 (fK (.inl 5))), (118, iP 120 (fIld 7)), (120, iW 121 wAI), (121, iP 122 (fK (.inl 1))), (122, iRet rI)] : List (Nat × AS)), SI X l 12 q.1 q.2 := List.forall_mem_cons.mpr ⟨
  s_iconst (show decode (cod 12) 89 = .ok (.iconst 0, 1) by decide +kernel) rfl, List.forall_mem_cons.mpr ⟨
  s_iload_n (k := 2) (show decode (cod 12) 90 = .ok (.iload_n 2, 1) by decide +kernel), List.forall_mem_cons.mpr ⟨
  s_iastore (show decode (cod 12) 91 = .ok (.iastore, 1) by decide +kernel), List.forall_mem_cons.mpr ⟨
  s_aload (k := 9) (show decode (cod 12) 92 = .ok (.aload 9, 2) by decide +kernel), List.forall_mem_cons.mpr ⟨
  s_iconst (show decode (cod 12) 94 = .ok (.iconst 1, 1) by decide +kernel) rfl, List.forall_mem_cons.mpr ⟨
  s_iload_n (k := 3) (show decode (cod 12) 95 = .ok (.iload_n 3, 1) by decide +kernel), List.forall_mem_cons.mpr ⟨
  s_iastore (show decode (cod 12) 96 = .ok (.iastore, 1) by decide +kernel), List.forall_mem_cons.mpr ⟨
  s_aload (k := 9) (show decode (cod 12) 97 = .ok (.aload 9, 2) by decide +kernel), List.forall_mem_cons.mpr ⟨
  s_iconst (show decode (cod 12) 99 = .ok (.iconst 2, 1) by decide +kernel) rfl, List.forall_mem_cons.mpr ⟨
  s_iload (k := 4) (show decode (cod 12) 100 = .ok (.iload 4, 2) by decide +kernel), List.forall_mem_cons.mpr ⟨
  s_iastore (show decode (cod 12) 102 = .ok (.iastore, 1) by decide +kernel), List.forall_mem_cons.mpr ⟨
  s_aload (k := 9) (show decode (cod 12) 103 = .ok (.aload 9, 2) by decide +kernel), List.forall_mem_cons.mpr ⟨
  s_iconst (show decode (cod 12) 105 = .ok (.iconst 3, 1) by decide +kernel) rfl, List.forall_mem_cons.mpr ⟨
  s_iload (k := 5) (show decode (cod 12) 106 = .ok (.iload 5, 2) by decide +kernel), List.forall_mem_cons.mpr ⟨
  s_iastore (show decode (cod 12) 108 = .ok (.iastore, 1) by decide +kernel), List.forall_mem_cons.mpr ⟨
  s_aload (k := 9) (show decode (cod 12) 109 = .ok (.aload 9, 2) by decide +kernel), List.forall_mem_cons.mpr ⟨
  s_iconst (show decode (cod 12) 111 = .ok (.iconst 4, 1) by decide +kernel) rfl, List.forall_mem_cons.mpr ⟨
  s_iload (k := 6) (show decode (cod 12) 112 = .ok (.iload 6, 2) by decide +kernel), List.forall_mem_cons.mpr ⟨
  s_iastore (show decode (cod 12) 114 = .ok (.iastore, 1) by decide +kernel), List.forall_mem_cons.mpr ⟨
  s_aload (k := 9) (show decode (cod 12) 115 = .ok (.aload 9, 2) by decide +kernel), List.forall_mem_cons.mpr ⟨
  s_iconst (show decode (cod 12) 117 = .ok (.iconst 5, 1) by decide +kernel) rfl, List.forall_mem_cons.mpr ⟨
  s_iload (k := 7) (show decode (cod 12) 118 = .ok (.iload 7, 2) by decide +kernel), List.forall_mem_cons.mpr ⟨
  s_iastore (show decode (cod 12) 120 = .ok (.iastore, 1) by decide +kernel), List.forall_mem_cons.mpr ⟨
  s_iconst (show decode (cod 12) 121 = .ok (.iconst 1, 1) by decide +kernel) rfl, List.forall_mem_cons.mpr ⟨
  s_ret (show decode (cod 12) 122 = .ok (.ireturn, 1) by decide +kernel) rI_ok (fun h => by cases h), fun _ h => by cases h⟩⟩⟩⟩⟩⟩⟩⟩⟩⟩⟩⟩⟩⟩⟩⟩⟩⟩⟩⟩⟩⟩⟩⟩⟩
set_option maxRecDepth 100000 in
theorem si12 (X : CX) (l : Launch) : ∀ q ∈ pt12, SI X l 12 q.1 q.2 := (List.forall_mem_append (l₁ := _) (l₂ := _)).mpr ⟨si12_0 X l, si12_1 X l⟩
set_option maxRecDepth 100000 in
set_option maxHeartbeats 4000000 in
theorem si13_0 (X : CX) (l : Launch) : ∀ q ∈ ([(0, iP 1 (fIld 0)), (1, iB 4 13 (b1 (fun x => decide (x < 0)))), (4, iP 5 (fIld 0)), (5, iP 6 (fK (.inl 2))), (6, iB 9 13 (b2 (fun x y => decide (y < x)))), (9, iP 10 (fK (.inl 1))), (10, iP 14 fGo), (13, iP 14 (fK (.inl 0))), (14, iRet rZ)] : List (Nat × AS)), SI X l 13 q.1 q.2 := List.forall_mem_cons.mpr ⟨
  s_iload_n (k := 0) (show decode (cod 13) 0 = .ok (.iload_n 0, 1) by decide +kernel), List.forall_mem_cons.mpr ⟨
  s_iflt (show decode (cod 13) 1 = .ok (.ifCond .lt 12, 3) by decide +kernel) (by decide), List.forall_mem_cons.mpr ⟨
  s_iload_n (k := 0) (show decode (cod 13) 4 = .ok (.iload_n 0, 1) by decide +kernel), List.forall_mem_cons.mpr ⟨
  s_iconst (show decode (cod 13) 5 = .ok (.iconst 2, 1) by decide +kernel) rfl, List.forall_mem_cons.mpr ⟨
  s_icmpgt (show decode (cod 13) 6 = .ok (.if_icmp .gt 7, 3) by decide +kernel) (by decide), List.forall_mem_cons.mpr ⟨
  s_iconst (show decode (cod 13) 9 = .ok (.iconst 1, 1) by decide +kernel) rfl, List.forall_mem_cons.mpr ⟨
  s_goto (show decode (cod 13) 10 = .ok (.goto 4, 3) by decide +kernel) (by decide), List.forall_mem_cons.mpr ⟨
  s_iconst (show decode (cod 13) 13 = .ok (.iconst 0, 1) by decide +kernel) rfl, List.forall_mem_cons.mpr ⟨
  s_ret (show decode (cod 13) 14 = .ok (.ireturn, 1) by decide +kernel) rZ_ok (fun _ => rZ_b), fun _ h => by cases h⟩⟩⟩⟩⟩⟩⟩⟩⟩
set_option maxRecDepth 100000 in
theorem si13 (X : CX) (l : Launch) : ∀ q ∈ pt13, SI X l 13 q.1 q.2 :=  si13_0 X l
set_option maxRecDepth 100000 in
set_option maxHeartbeats 4000000 in
theorem si14_0 (X : CX) (l : Launch) : ∀ q ∈ ([(0, iP 1 (fAld 0)), (1, iP 2 (fIld 1)), (2, iCK 5 11 15 2 2 3), (5, iP 6 (fAst 3)), (6, iP 7 (fAld 3)), (7, iB 10 21 bN), (10, iP 11 (fIld 2)), (11, iP 12 (fK (.inl 1))), (12, iB 15 21 (b2 (fun x y => decide (x < y)))), (15, iP 16 (fIld 2)), (16, iP 18 (fK (.inl 99))), (18, iB 21 24 (b2 (fun x y => decide (x ≤ y)))), (21, iP 23 (fK (.inl (-1000001)))), (23, iRet rI), (24, iP 25 (fAld 3)), (25, iCK 28 7 16 1 1 1), (28, iB 31 34 (b1 (fun x => decide (x = 0)))), (31, iP 33 (fK (.inl (-1000003)))), (33, iRet rI), (34, iP 35 (fAld 0)), (35, iP 36 (fAld 3)), (36, iW 39 (wNew 10 5)), (39, iP 40 fDup), (40, iP 41 (fAld 3)), (41, iRI 44 (gtI 23)), (44, iP 45 (fAld 3)), (45, iCK 48 7 17 3 1 1), (48, iP 49 (fIld 2)), (49, iCK 52 10 19 4 4 0), (52, iCK 55 11 21 3 3 1), (55, iRet rI)] : List (Nat × AS)), SI X l 14 q.1 q.2 := List.forall_mem_cons.mpr ⟨
  s_aload_n (k := 0) (show decode (cod 14) 0 = .ok (.aload_n 0, 1) by decide +kernel), List.forall_mem_cons.mpr ⟨
  s_iload_n (k := 1) (show decode (cod 14) 1 = .ok (.iload_n 1, 1) by decide +kernel), List.forall_mem_cons.mpr ⟨
  s_invK rfl (rcv_virt (show decode (cod 14) 2 = .ok (.invokevirtual 56, 3) by decide +kernel) cld_14_15 ⟨10, _, _, rfl, by decide, rfl⟩ wd_102 wd_103 wd_104), List.forall_mem_cons.mpr ⟨
  s_astore_n (k := 3) (show decode (cod 14) 5 = .ok (.astore_n 3, 1) by decide +kernel), List.forall_mem_cons.mpr ⟨
  s_aload_n (k := 3) (show decode (cod 14) 6 = .ok (.aload_n 3, 1) by decide +kernel), List.forall_mem_cons.mpr ⟨
  s_ifnull (show decode (cod 14) 7 = .ok (.ifnull 14, 3) by decide +kernel) (by decide), List.forall_mem_cons.mpr ⟨
  s_iload_n (k := 2) (show decode (cod 14) 10 = .ok (.iload_n 2, 1) by decide +kernel), List.forall_mem_cons.mpr ⟨
  s_iconst (show decode (cod 14) 11 = .ok (.iconst 1, 1) by decide +kernel) rfl, List.forall_mem_cons.mpr ⟨
  s_icmplt (show decode (cod 14) 12 = .ok (.if_icmp .lt 9, 3) by decide +kernel) (by decide), List.forall_mem_cons.mpr ⟨
  s_iload_n (k := 2) (show decode (cod 14) 15 = .ok (.iload_n 2, 1) by decide +kernel), List.forall_mem_cons.mpr ⟨
  s_bipush (show decode (cod 14) 16 = .ok (.bipush 99, 2) by decide +kernel) rfl, List.forall_mem_cons.mpr ⟨
  s_icmple (show decode (cod 14) 18 = .ok (.if_icmp .le 6, 3) by decide +kernel) (by decide), List.forall_mem_cons.mpr ⟨
  s_ldc (show decode (cod 14) 21 = .ok (.ldc 55, 2) by decide +kernel) wd_100, List.forall_mem_cons.mpr ⟨
  s_ret (show decode (cod 14) 23 = .ok (.ireturn, 1) by decide +kernel) rI_ok (fun h => by cases h), List.forall_mem_cons.mpr ⟨
  s_aload_n (k := 3) (show decode (cod 14) 24 = .ok (.aload_n 3, 1) by decide +kernel), List.forall_mem_cons.mpr ⟨
  s_invK rfl (rcv_virt (show decode (cod 14) 25 = .ok (.invokevirtual 60, 3) by decide +kernel) cld_14_16 ⟨6, _, _, rfl, by decide, rfl⟩ wd_106 wd_107 wd_108), List.forall_mem_cons.mpr ⟨
  s_ifeq (show decode (cod 14) 28 = .ok (.ifCond .eq 6, 3) by decide +kernel) (by decide), List.forall_mem_cons.mpr ⟨
  s_ldc (show decode (cod 14) 31 = .ok (.ldc 50, 2) by decide +kernel) wd_95, List.forall_mem_cons.mpr ⟨
  s_ret (show decode (cod 14) 33 = .ok (.ireturn, 1) by decide +kernel) rI_ok (fun h => by cases h), List.forall_mem_cons.mpr ⟨
  s_aload_n (k := 0) (show decode (cod 14) 34 = .ok (.aload_n 0, 1) by decide +kernel), List.forall_mem_cons.mpr ⟨
  s_aload_n (k := 3) (show decode (cod 14) 35 = .ok (.aload_n 3, 1) by decide +kernel), List.forall_mem_cons.mpr ⟨
  s_new (show decode (cod 14) 36 = .ok (.new 64, 3) by decide +kernel) (by decide) rfl wd_109 wd_110 wd_111, List.forall_mem_cons.mpr ⟨
  s_dup (show decode (cod 14) 39 = .ok (.dup, 1) by decide +kernel), List.forall_mem_cons.mpr ⟨
  s_aload_n (k := 3) (show decode (cod 14) 40 = .ok (.aload_n 3, 1) by decide +kernel), List.forall_mem_cons.mpr ⟨
  s_getI (show decode (cod 14) 41 = .ok (.getfield 66, 3) by decide +kernel) wd_112 (Or.inl rfl) (Or.inl rfl), List.forall_mem_cons.mpr ⟨
  s_aload_n (k := 3) (show decode (cod 14) 44 = .ok (.aload_n 3, 1) by decide +kernel), List.forall_mem_cons.mpr ⟨
  s_invK rfl (rcv_virt (show decode (cod 14) 45 = .ok (.invokevirtual 69, 3) by decide +kernel) cld_14_17 ⟨6, _, _, rfl, by decide, rfl⟩ wd_114 wd_115 wd_116), List.forall_mem_cons.mpr ⟨
  s_iload_n (k := 2) (show decode (cod 14) 48 = .ok (.iload_n 2, 1) by decide +kernel), List.forall_mem_cons.mpr ⟨
  s_invK rfl (rcv_init (C := "StepsAhead$Work") (show decode (cod 14) 49 = .ok (.invokespecial 73, 3) by decide +kernel) cld_14_19 rfl rfl ⟨9, _, _, rfl, by decide, rfl⟩ wd_118 wd_119), List.forall_mem_cons.mpr ⟨
  s_invK rfl (rcv_virt (show decode (cod 14) 52 = .ok (.invokevirtual 76, 3) by decide +kernel) cld_14_21 ⟨10, _, _, rfl, by decide, rfl⟩ wd_121 wd_122 wd_123), List.forall_mem_cons.mpr ⟨
  s_ret (show decode (cod 14) 55 = .ok (.ireturn, 1) by decide +kernel) rI_ok (fun h => by cases h), fun _ h => by cases h⟩⟩⟩⟩⟩⟩⟩⟩⟩⟩⟩⟩⟩⟩⟩⟩⟩⟩⟩⟩⟩⟩⟩⟩⟩⟩⟩⟩⟩⟩⟩
set_option maxRecDepth 100000 in
theorem si14 (X : CX) (l : Launch) : ∀ q ∈ pt14, SI X l 14 q.1 q.2 :=  si14_0 X l
set_option maxRecDepth 100000 in
set_option maxHeartbeats 4000000 in
theorem si15_0 (X : CX) (l : Launch) : ∀ q ∈ ([(0, iP 1 (fIld 1)), (1, iB 4 18 (b1 (fun x => decide (x < 0)))), (4, iP 5 (fIld 1)), (5, iP 6 (fAld 0)), (6, iRI 9 (gtI 44)), (9, iB 12 18 (b2 (fun x y => decide (y ≤ x)))), (12, iP 13 (fIld 1)), (13, iP 15 (fK (.inl 8))), (15, iB 18 22 (b2 (fun x y => decide (x < y)))), (18, iP 19 (fK (.inr (.inr 0)))), (19, iP 28 fGo), (22, iP 23 (fAld 0)), (23, iRR 26 (gtR 43)), (26, iP 27 (fIld 1)), (27, iRR 28 qAR), (28, iRet rA)] : List (Nat × AS)), SI X l 15 q.1 q.2 := List.forall_mem_cons.mpr ⟨
  s_iload_n (k := 1) (show decode (cod 15) 0 = .ok (.iload_n 1, 1) by decide +kernel), List.forall_mem_cons.mpr ⟨
  s_iflt (show decode (cod 15) 1 = .ok (.ifCond .lt 17, 3) by decide +kernel) (by decide), List.forall_mem_cons.mpr ⟨
  s_iload_n (k := 1) (show decode (cod 15) 4 = .ok (.iload_n 1, 1) by decide +kernel), List.forall_mem_cons.mpr ⟨
  s_aload_n (k := 0) (show decode (cod 15) 5 = .ok (.aload_n 0, 1) by decide +kernel), List.forall_mem_cons.mpr ⟨
  s_getI (show decode (cod 15) 6 = .ok (.getfield 15, 3) by decide +kernel) wd_5 (Or.inl rfl) (Or.inl rfl), List.forall_mem_cons.mpr ⟨
  s_icmpge (show decode (cod 15) 9 = .ok (.if_icmp .ge 9, 3) by decide +kernel) (by decide), List.forall_mem_cons.mpr ⟨
  s_iload_n (k := 1) (show decode (cod 15) 12 = .ok (.iload_n 1, 1) by decide +kernel), List.forall_mem_cons.mpr ⟨
  s_bipush (show decode (cod 15) 13 = .ok (.bipush 8, 2) by decide +kernel) rfl, List.forall_mem_cons.mpr ⟨
  s_icmplt (show decode (cod 15) 15 = .ok (.if_icmp .lt 7, 3) by decide +kernel) (by decide), List.forall_mem_cons.mpr ⟨
  s_null (show decode (cod 15) 18 = .ok (.aconst_null, 1) by decide +kernel), List.forall_mem_cons.mpr ⟨
  s_goto (show decode (cod 15) 19 = .ok (.goto 9, 3) by decide +kernel) (by decide), List.forall_mem_cons.mpr ⟨
  s_aload_n (k := 0) (show decode (cod 15) 22 = .ok (.aload_n 0, 1) by decide +kernel), List.forall_mem_cons.mpr ⟨
  s_getR (show decode (cod 15) 23 = .ok (.getfield 11, 3) by decide +kernel) wd_4 (Or.inl rfl) rfl, List.forall_mem_cons.mpr ⟨
  s_iload_n (k := 1) (show decode (cod 15) 26 = .ok (.iload_n 1, 1) by decide +kernel), List.forall_mem_cons.mpr ⟨
  s_aaload (show decode (cod 15) 27 = .ok (.aaload, 1) by decide +kernel), List.forall_mem_cons.mpr ⟨
  s_ret (show decode (cod 15) 28 = .ok (.areturn, 1) by decide +kernel) rA_ok (fun h => by cases h), fun _ h => by cases h⟩⟩⟩⟩⟩⟩⟩⟩⟩⟩⟩⟩⟩⟩⟩⟩
set_option maxRecDepth 100000 in
theorem si15 (X : CX) (l : Launch) : ∀ q ∈ pt15, SI X l 15 q.1 q.2 :=  si15_0 X l
set_option maxRecDepth 100000 in
set_option maxHeartbeats 4000000 in
theorem si16_0 (X : CX) (l : Launch) : ∀ q ∈ ([(0, iP 1 (fAld 0)), (1, iRI 4 (gtI 23)), (4, iP 6 (fK (.inl 24))), (6, iB 9 13 (b2 (fun x y => decide (x < y)))), (9, iP 10 (fK (.inl 1))), (10, iP 14 fGo), (13, iP 14 (fK (.inl 0))), (14, iRet rZ)] : List (Nat × AS)), SI X l 16 q.1 q.2 := List.forall_mem_cons.mpr ⟨
  s_aload_n (k := 0) (show decode (cod 16) 0 = .ok (.aload_n 0, 1) by decide +kernel), List.forall_mem_cons.mpr ⟨
  s_getI (show decode (cod 16) 1 = .ok (.getfield 17, 3) by decide +kernel) wd_83 (Or.inl rfl) (Or.inl rfl), List.forall_mem_cons.mpr ⟨
  s_bipush (show decode (cod 16) 4 = .ok (.bipush 24, 2) by decide +kernel) rfl, List.forall_mem_cons.mpr ⟨
  s_icmplt (show decode (cod 16) 6 = .ok (.if_icmp .lt 7, 3) by decide +kernel) (by decide), List.forall_mem_cons.mpr ⟨
  s_iconst (show decode (cod 16) 9 = .ok (.iconst 1, 1) by decide +kernel) rfl, List.forall_mem_cons.mpr ⟨
  s_goto (show decode (cod 16) 10 = .ok (.goto 4, 3) by decide +kernel) (by decide), List.forall_mem_cons.mpr ⟨
  s_iconst (show decode (cod 16) 13 = .ok (.iconst 0, 1) by decide +kernel) rfl, List.forall_mem_cons.mpr ⟨
  s_ret (show decode (cod 16) 14 = .ok (.ireturn, 1) by decide +kernel) rZ_ok (fun _ => rZ_b), fun _ h => by cases h⟩⟩⟩⟩⟩⟩⟩⟩
set_option maxRecDepth 100000 in
theorem si16 (X : CX) (l : Launch) : ∀ q ∈ pt16, SI X l 16 q.1 q.2 :=  si16_0 X l
set_option maxRecDepth 100000 in
set_option maxHeartbeats 4000000 in
theorem si17_0 (X : CX) (l : Launch) : ∀ q ∈ ([(0, iP 1 (fK (.inl 0))), (1, iP 2 (fIst 1)), (2, iP 3 (fK (.inl 0))), (3, iP 4 (fIst 2)), (4, iP 5 (fIld 2)), (5, iP 6 (fAld 0)), (6, iRI 9 (gtI 25)), (9, iB 12 43 (b2 (fun x y => decide (y ≤ x)))), (12, iP 13 (fIld 2)), (13, iP 15 (fK (.inl 24))), (15, iB 18 43 (b2 (fun x y => decide (y ≤ x)))), (18, iP 19 (fAld 0)), (19, iP 20 (fAld 0)), (20, iRR 23 (gtR 24)), (23, iP 24 (fIld 2)), (24, iRI 25 qAI), (25, iCK 28 7 18 2 2 3), (28, iRI 31 (qInst [3] [1, 2, 4, 10])), (31, iB 34 37 (b1 (fun x => decide (x = 0)))), (34, iP 37 (fInc 1 1)), (37, iP 40 (fInc 2 1)), (40, iP 4 fGo), (43, iP 44 (fIld 1)), (44, iRet rI)] : List (Nat × AS)), SI X l 17 q.1 q.2 := List.forall_mem_cons.mpr ⟨
  s_iconst (show decode (cod 17) 0 = .ok (.iconst 0, 1) by decide +kernel) rfl, List.forall_mem_cons.mpr ⟨
  s_istore_n (k := 1) (show decode (cod 17) 1 = .ok (.istore_n 1, 1) by decide +kernel), List.forall_mem_cons.mpr ⟨
  s_iconst (show decode (cod 17) 2 = .ok (.iconst 0, 1) by decide +kernel) rfl, List.forall_mem_cons.mpr ⟨
  s_istore_n (k := 2) (show decode (cod 17) 3 = .ok (.istore_n 2, 1) by decide +kernel), List.forall_mem_cons.mpr ⟨
  s_iload_n (k := 2) (show decode (cod 17) 4 = .ok (.iload_n 2, 1) by decide +kernel), List.forall_mem_cons.mpr ⟨
  s_aload_n (k := 0) (show decode (cod 17) 5 = .ok (.aload_n 0, 1) by decide +kernel), List.forall_mem_cons.mpr ⟨
  s_getI (show decode (cod 17) 6 = .ok (.getfield 25, 3) by decide +kernel) wd_85 (Or.inl rfl) (Or.inl rfl), List.forall_mem_cons.mpr ⟨
  s_icmpge (show decode (cod 17) 9 = .ok (.if_icmp .ge 34, 3) by decide +kernel) (by decide), List.forall_mem_cons.mpr ⟨
  s_iload_n (k := 2) (show decode (cod 17) 12 = .ok (.iload_n 2, 1) by decide +kernel), List.forall_mem_cons.mpr ⟨
  s_bipush (show decode (cod 17) 13 = .ok (.bipush 24, 2) by decide +kernel) rfl, List.forall_mem_cons.mpr ⟨
  s_icmpge (show decode (cod 17) 15 = .ok (.if_icmp .ge 28, 3) by decide +kernel) (by decide), List.forall_mem_cons.mpr ⟨
  s_aload_n (k := 0) (show decode (cod 17) 18 = .ok (.aload_n 0, 1) by decide +kernel), List.forall_mem_cons.mpr ⟨
  s_aload_n (k := 0) (show decode (cod 17) 19 = .ok (.aload_n 0, 1) by decide +kernel), List.forall_mem_cons.mpr ⟨
  s_getR (show decode (cod 17) 20 = .ok (.getfield 21, 3) by decide +kernel) wd_84 (Or.inl rfl) rfl, List.forall_mem_cons.mpr ⟨
  s_iload_n (k := 2) (show decode (cod 17) 23 = .ok (.iload_n 2, 1) by decide +kernel), List.forall_mem_cons.mpr ⟨
  s_iaload (show decode (cod 17) 24 = .ok (.iaload, 1) by decide +kernel), List.forall_mem_cons.mpr ⟨
  s_invK rfl (rcv_virt (show decode (cod 17) 25 = .ok (.invokevirtual 56, 3) by decide +kernel) cld_17_18 ⟨6, _, _, rfl, by decide, rfl⟩ wd_125 wd_126 wd_127), List.forall_mem_cons.mpr ⟨
  s_inst (show decode (cod 17) 28 = .ok (.instanceof 60, 3) by decide +kernel) wd_128 (List.forall_mem_cons.mpr ⟨⟨"StepsAhead$Loop", ⟨2, _, _, rfl, by decide, rfl⟩, Or.inl rfl⟩, fun _ h => by cases h⟩) (List.forall_mem_cons.mpr ⟨⟨"StepsAhead$Call", ⟨0, _, _, rfl, by decide, rfl⟩, Or.inl (by decide)⟩, List.forall_mem_cons.mpr ⟨⟨"StepsAhead$Either", ⟨1, _, _, rfl, by decide, rfl⟩, Or.inl (by decide)⟩, List.forall_mem_cons.mpr ⟨⟨"StepsAhead$Op", ⟨3, _, _, rfl, by decide, rfl⟩, Or.inl (by decide)⟩, List.forall_mem_cons.mpr ⟨⟨"StepsAhead$Work", ⟨9, _, _, rfl, by decide, rfl⟩, Or.inl (by decide)⟩, fun _ h => by cases h⟩⟩⟩⟩), List.forall_mem_cons.mpr ⟨
  s_ifeq (show decode (cod 17) 31 = .ok (.ifCond .eq 6, 3) by decide +kernel) (by decide), List.forall_mem_cons.mpr ⟨
  s_iinc (show decode (cod 17) 34 = .ok (.iinc 1 1, 3) by decide +kernel) rfl, List.forall_mem_cons.mpr ⟨
  s_iinc (show decode (cod 17) 37 = .ok (.iinc 2 1, 3) by decide +kernel) rfl, List.forall_mem_cons.mpr ⟨
  s_goto (show decode (cod 17) 40 = .ok (.goto (-36), 3) by decide +kernel) (by decide), List.forall_mem_cons.mpr ⟨
  s_iload_n (k := 1) (show decode (cod 17) 43 = .ok (.iload_n 1, 1) by decide +kernel), List.forall_mem_cons.mpr ⟨
  s_ret (show decode (cod 17) 44 = .ok (.ireturn, 1) by decide +kernel) rI_ok (fun h => by cases h), fun _ h => by cases h⟩⟩⟩⟩⟩⟩⟩⟩⟩⟩⟩⟩⟩⟩⟩⟩⟩⟩⟩⟩⟩⟩⟩⟩
set_option maxRecDepth 100000 in
theorem si17 (X : CX) (l : Launch) : ∀ q ∈ pt17, SI X l 17 q.1 q.2 :=  si17_0 X l
set_option maxRecDepth 100000 in
set_option maxHeartbeats 4000000 in
theorem si18_0 (X : CX) (l : Launch) : ∀ q ∈ ([(0, iP 1 (fIld 1)), (1, iB 4 18 (b1 (fun x => decide (x < 0)))), (4, iP 5 (fIld 1)), (5, iP 6 (fAld 0)), (6, iRI 9 (gtI 23)), (9, iB 12 18 (b2 (fun x y => decide (y ≤ x)))), (12, iP 13 (fIld 1)), (13, iP 15 (fK (.inl 24))), (15, iB 18 22 (b2 (fun x y => decide (x < y)))), (18, iP 19 (fK (.inr (.inr 0)))), (19, iP 28 fGo), (22, iP 23 (fAld 0)), (23, iRR 26 (gtR 22)), (26, iP 27 (fIld 1)), (27, iRR 28 qAR), (28, iRet rA)] : List (Nat × AS)), SI X l 18 q.1 q.2 := List.forall_mem_cons.mpr ⟨
  s_iload_n (k := 1) (show decode (cod 18) 0 = .ok (.iload_n 1, 1) by decide +kernel), List.forall_mem_cons.mpr ⟨
  s_iflt (show decode (cod 18) 1 = .ok (.ifCond .lt 17, 3) by decide +kernel) (by decide), List.forall_mem_cons.mpr ⟨
  s_iload_n (k := 1) (show decode (cod 18) 4 = .ok (.iload_n 1, 1) by decide +kernel), List.forall_mem_cons.mpr ⟨
  s_aload_n (k := 0) (show decode (cod 18) 5 = .ok (.aload_n 0, 1) by decide +kernel), List.forall_mem_cons.mpr ⟨
  s_getI (show decode (cod 18) 6 = .ok (.getfield 17, 3) by decide +kernel) wd_83 (Or.inl rfl) (Or.inl rfl), List.forall_mem_cons.mpr ⟨
  s_icmpge (show decode (cod 18) 9 = .ok (.if_icmp .ge 9, 3) by decide +kernel) (by decide), List.forall_mem_cons.mpr ⟨
  s_iload_n (k := 1) (show decode (cod 18) 12 = .ok (.iload_n 1, 1) by decide +kernel), List.forall_mem_cons.mpr ⟨
  s_bipush (show decode (cod 18) 13 = .ok (.bipush 24, 2) by decide +kernel) rfl, List.forall_mem_cons.mpr ⟨
  s_icmplt (show decode (cod 18) 15 = .ok (.if_icmp .lt 7, 3) by decide +kernel) (by decide), List.forall_mem_cons.mpr ⟨
  s_null (show decode (cod 18) 18 = .ok (.aconst_null, 1) by decide +kernel), List.forall_mem_cons.mpr ⟨
  s_goto (show decode (cod 18) 19 = .ok (.goto 9, 3) by decide +kernel) (by decide), List.forall_mem_cons.mpr ⟨
  s_aload_n (k := 0) (show decode (cod 18) 22 = .ok (.aload_n 0, 1) by decide +kernel), List.forall_mem_cons.mpr ⟨
  s_getR (show decode (cod 18) 23 = .ok (.getfield 11, 3) by decide +kernel) wd_82 (Or.inl rfl) rfl, List.forall_mem_cons.mpr ⟨
  s_iload_n (k := 1) (show decode (cod 18) 26 = .ok (.iload_n 1, 1) by decide +kernel), List.forall_mem_cons.mpr ⟨
  s_aaload (show decode (cod 18) 27 = .ok (.aaload, 1) by decide +kernel), List.forall_mem_cons.mpr ⟨
  s_ret (show decode (cod 18) 28 = .ok (.areturn, 1) by decide +kernel) rA_ok (fun h => by cases h), fun _ h => by cases h⟩⟩⟩⟩⟩⟩⟩⟩⟩⟩⟩⟩⟩⟩⟩⟩
set_option maxRecDepth 100000 in
theorem si18 (X : CX) (l : Launch) : ∀ q ∈ pt18, SI X l 18 q.1 q.2 :=  si18_0 X l
set_option maxRecDepth 100000 in
set_option maxHeartbeats 4000000 in
theorem si19_0 (X : CX) (l : Launch) : ∀ q ∈ ([(0, iP 1 (fAld 0)), (1, iP 2 (fK (.inl 1))), (2, iP 3 (fIld 1)), (3, iP 4 (fIld 2)), (4, iP 5 (fK (.inl (-1)))), (5, iCK 8 10 20 5 5 0), (8, iP 9 (fAld 0)), (9, iP 10 (fIld 3)), (10, iW 13 (ptI 42)), (13, iRet rV)] : List (Nat × AS)), SI X l 19 q.1 q.2 := List.forall_mem_cons.mpr ⟨
  s_aload_n (k := 0) (show decode (cod 19) 0 = .ok (.aload_n 0, 1) by decide +kernel), List.forall_mem_cons.mpr ⟨
  s_iconst (show decode (cod 19) 1 = .ok (.iconst 1, 1) by decide +kernel) rfl, List.forall_mem_cons.mpr ⟨
  s_iload_n (k := 1) (show decode (cod 19) 2 = .ok (.iload_n 1, 1) by decide +kernel), List.forall_mem_cons.mpr ⟨
  s_iload_n (k := 2) (show decode (cod 19) 3 = .ok (.iload_n 2, 1) by decide +kernel), List.forall_mem_cons.mpr ⟨
  s_iconst (show decode (cod 19) 4 = .ok (.iconst (-1), 1) by decide +kernel) rfl, List.forall_mem_cons.mpr ⟨
  s_invK rfl (rcv_init (C := "StepsAhead$Work") (show decode (cod 19) 5 = .ok (.invokespecial 3, 3) by decide +kernel) cld_19_20 rfl rfl ⟨9, _, _, rfl, by decide, rfl⟩ wd_131 wd_132), List.forall_mem_cons.mpr ⟨
  s_aload_n (k := 0) (show decode (cod 19) 8 = .ok (.aload_n 0, 1) by decide +kernel), List.forall_mem_cons.mpr ⟨
  s_iload_n (k := 3) (show decode (cod 19) 9 = .ok (.iload_n 3, 1) by decide +kernel), List.forall_mem_cons.mpr ⟨
  s_putI (show decode (cod 19) 10 = .ok (.putfield 9, 3) by decide +kernel) wd_133 (Or.inl rfl) (Or.inr ⟨rfl, rfl, rfl⟩) rfl, List.forall_mem_cons.mpr ⟨
  s_ret (show decode (cod 19) 13 = .ok (.return_, 1) by decide +kernel) rV_ok (fun h => by cases h), fun _ h => by cases h⟩⟩⟩⟩⟩⟩⟩⟩⟩⟩
set_option maxRecDepth 100000 in
theorem si19 (X : CX) (l : Launch) : ∀ q ∈ pt19, SI X l 19 q.1 q.2 :=  si19_0 X l
set_option maxRecDepth 100000 in
set_option maxHeartbeats 4000000 in
theorem si20_0 (X : CX) (l : Launch) : ∀ q ∈ ([(0, iP 1 (fAld 0)), (1, iW 4 wObj), (4, iP 5 (fAld 0)), (5, iP 6 (fIld 1)), (6, iW 9 (ptI 1)), (9, iP 10 (fAld 0)), (10, iP 11 (fIld 2)), (11, iW 14 (ptI 2)), (14, iP 15 (fAld 0)), (15, iP 16 (fIld 3)), (16, iW 19 (ptI 3)), (19, iP 20 (fAld 0)), (20, iP 22 (fIld 4)), (22, iW 25 (ptI 4)), (25, iRet rV)] : List (Nat × AS)), SI X l 20 q.1 q.2 := List.forall_mem_cons.mpr ⟨
  s_aload_n (k := 0) (show decode (cod 20) 0 = .ok (.aload_n 0, 1) by decide +kernel), List.forall_mem_cons.mpr ⟨
  s_objInit (show decode (cod 20) 1 = .ok (.invokespecial 3, 3) by decide +kernel) wd_134 wd_1 wd_2 (by decide), List.forall_mem_cons.mpr ⟨
  s_aload_n (k := 0) (show decode (cod 20) 4 = .ok (.aload_n 0, 1) by decide +kernel), List.forall_mem_cons.mpr ⟨
  s_iload_n (k := 1) (show decode (cod 20) 5 = .ok (.iload_n 1, 1) by decide +kernel), List.forall_mem_cons.mpr ⟨
  s_putI (show decode (cod 20) 6 = .ok (.putfield 9, 3) by decide +kernel) wd_135 (Or.inl rfl) (Or.inr ⟨rfl, rfl, rfl⟩) rfl, List.forall_mem_cons.mpr ⟨
  s_aload_n (k := 0) (show decode (cod 20) 9 = .ok (.aload_n 0, 1) by decide +kernel), List.forall_mem_cons.mpr ⟨
  s_iload_n (k := 2) (show decode (cod 20) 10 = .ok (.iload_n 2, 1) by decide +kernel), List.forall_mem_cons.mpr ⟨
  s_putI (show decode (cod 20) 11 = .ok (.putfield 15, 3) by decide +kernel) wd_136 (Or.inl rfl) (Or.inr ⟨rfl, rfl, rfl⟩) rfl, List.forall_mem_cons.mpr ⟨
  s_aload_n (k := 0) (show decode (cod 20) 14 = .ok (.aload_n 0, 1) by decide +kernel), List.forall_mem_cons.mpr ⟨
  s_iload_n (k := 3) (show decode (cod 20) 15 = .ok (.iload_n 3, 1) by decide +kernel), List.forall_mem_cons.mpr ⟨
  s_putI (show decode (cod 20) 16 = .ok (.putfield 18, 3) by decide +kernel) wd_137 (Or.inl rfl) (Or.inr ⟨rfl, rfl, rfl⟩) rfl, List.forall_mem_cons.mpr ⟨
  s_aload_n (k := 0) (show decode (cod 20) 19 = .ok (.aload_n 0, 1) by decide +kernel), List.forall_mem_cons.mpr ⟨
  s_iload (k := 4) (show decode (cod 20) 20 = .ok (.iload 4, 2) by decide +kernel), List.forall_mem_cons.mpr ⟨
  s_putI (show decode (cod 20) 22 = .ok (.putfield 21, 3) by decide +kernel) wd_138 (Or.inl rfl) (Or.inr ⟨rfl, rfl, rfl⟩) rfl, List.forall_mem_cons.mpr ⟨
  s_ret (show decode (cod 20) 25 = .ok (.return_, 1) by decide +kernel) rV_ok (fun h => by cases h), fun _ h => by cases h⟩⟩⟩⟩⟩⟩⟩⟩⟩⟩⟩⟩⟩⟩⟩
set_option maxRecDepth 100000 in
theorem si20 (X : CX) (l : Launch) : ∀ q ∈ pt20, SI X l 20 q.1 q.2 :=  si20_0 X l
set_option maxRecDepth 100000 in
set_option maxHeartbeats 4000000 in
theorem si21_0 (X : CX) (l : Launch) : ∀ q ∈ ([(0, iP 1 (fAld 1)), (1, iP 2 (fAld 2)), (2, iCK 5 7 22 3 2 0), (5, iP 6 (fAld 0)), (6, iP 7 (fAld 1)), (7, iRI 10 (gtI 21)), (10, iCK 13 11 28 3 2 0), (13, iP 14 (fAld 2)), (14, iRI 17 (gtI 2)), (17, iRet rI)] : List (Nat × AS)), SI X l 21 q.1 q.2 := List.forall_mem_cons.mpr ⟨
  s_aload_n (k := 1) (show decode (cod 21) 0 = .ok (.aload_n 1, 1) by decide +kernel), List.forall_mem_cons.mpr ⟨
  s_aload_n (k := 2) (show decode (cod 21) 1 = .ok (.aload_n 2, 1) by decide +kernel), List.forall_mem_cons.mpr ⟨
  s_invK rfl (rcv_virt (show decode (cod 21) 2 = .ok (.invokevirtual 220, 3) by decide +kernel) cld_21_22 ⟨6, _, _, rfl, by decide, rfl⟩ wd_140 wd_141 wd_142), List.forall_mem_cons.mpr ⟨
  s_aload_n (k := 0) (show decode (cod 21) 5 = .ok (.aload_n 0, 1) by decide +kernel), List.forall_mem_cons.mpr ⟨
  s_aload_n (k := 1) (show decode (cod 21) 6 = .ok (.aload_n 1, 1) by decide +kernel), List.forall_mem_cons.mpr ⟨
  s_getI (show decode (cod 21) 7 = .ok (.getfield 119, 3) by decide +kernel) wd_143 (Or.inl rfl) (Or.inl rfl), List.forall_mem_cons.mpr ⟨
  s_invK rfl (rcv_virt (show decode (cod 21) 10 = .ok (.invokevirtual 122, 3) by decide +kernel) cld_21_28 ⟨10, _, _, rfl, by decide, rfl⟩ wd_145 wd_146 wd_147), List.forall_mem_cons.mpr ⟨
  s_aload_n (k := 2) (show decode (cod 21) 13 = .ok (.aload_n 2, 1) by decide +kernel), List.forall_mem_cons.mpr ⟨
  s_getI (show decode (cod 21) 14 = .ok (.getfield 110, 3) by decide +kernel) wd_148 (Or.inl rfl) (Or.inl rfl), List.forall_mem_cons.mpr ⟨
  s_ret (show decode (cod 21) 17 = .ok (.ireturn, 1) by decide +kernel) rI_ok (fun h => by cases h), fun _ h => by cases h⟩⟩⟩⟩⟩⟩⟩⟩⟩⟩
set_option maxRecDepth 100000 in
theorem si21 (X : CX) (l : Launch) : ∀ q ∈ pt21, SI X l 21 q.1 q.2 :=  si21_0 X l
set_option maxRecDepth 100000 in
set_option maxHeartbeats 4000000 in
theorem si22_0 (X : CX) (l : Launch) : ∀ q ∈ ([(0, iP 1 (fAld 0)), (1, iCK 4 7 16 1 1 1), (4, iB 7 8 (b1 (fun x => decide (x = 0)))), (7, iRet rV), (8, iP 9 (fAld 0)), (9, iRR 12 (gtR 22)), (12, iP 13 (fAld 0)), (13, iRI 16 (gtI 23)), (16, iP 17 (fAld 1)), (17, iW 18 wAR), (18, iP 19 (fAld 0)), (19, iP 20 fDup), (20, iRI 23 (gtI 23)), (23, iP 24 (fK (.inl 1))), (24, iP 25 (f2I (fun x y => x + y))), (25, iW 28 (ptI 23)), (28, iP 29 (fAld 0)), (29, iCK 32 7 23 4 1 0), (32, iP 33 (fAld 1)), (33, iRI 36 (gtI 1)), (36, iP 37 (fK (.inl 3))), (37, iB 40 48 (b2 (fun x y => decide (x = y)))), (40, iP 41 (fAld 1)), (41, iRI 44 (gtI 1)), (44, iP 45 (fK (.inl 5))), (45, iB 48 57 (b2 (fun x y => decide (x ≠ y)))), (48, iP 49 (fAld 0)), (49, iP 50 (fAld 1)), (50, iRI 53 (gtI 2)), (53, iCK 56 7 24 2 2 0), (56, iRet rV), (57, iP 58 (fAld 0)), (58, iP 59 (fAld 1)), (59, iRI 62 (gtI 4)), (62, iCK 65 7 18 2 2 3), (65, iP 66 (fAst 2)), (66, iP 67 (fAld 2)), (67, iB 70 101 bN), (70, iP 71 (fAld 2)), (71, iP 72 (fAld 1))] : List (Nat × AS)), SI X l 22 q.1 q.2 := List.forall_mem_cons.mpr ⟨
  s_aload_n (k := 0) (show decode (cod 22) 0 = .ok (.aload_n 0, 1) by decide +kernel), List.forall_mem_cons.mpr ⟨
  s_invK rfl (rcv_virt (show decode (cod 22) 1 = .ok (.invokevirtual 64, 3) by decide +kernel) cld_22_16 ⟨6, _, _, rfl, by decide, rfl⟩ wd_149 wd_107 wd_108), List.forall_mem_cons.mpr ⟨
  s_ifeq (show decode (cod 22) 4 = .ok (.ifCond .eq 4, 3) by decide +kernel) (by decide), List.forall_mem_cons.mpr ⟨
  s_ret (show decode (cod 22) 7 = .ok (.return_, 1) by decide +kernel) rV_ok (fun h => by cases h), List.forall_mem_cons.mpr ⟨
  s_aload_n (k := 0) (show decode (cod 22) 8 = .ok (.aload_n 0, 1) by decide +kernel), List.forall_mem_cons.mpr ⟨
  s_getR (show decode (cod 22) 9 = .ok (.getfield 11, 3) by decide +kernel) wd_82 (Or.inl rfl) rfl, List.forall_mem_cons.mpr ⟨
  s_aload_n (k := 0) (show decode (cod 22) 12 = .ok (.aload_n 0, 1) by decide +kernel), List.forall_mem_cons.mpr ⟨
  s_getI (show decode (cod 22) 13 = .ok (.getfield 17, 3) by decide +kernel) wd_83 (Or.inl rfl) (Or.inl rfl), List.forall_mem_cons.mpr ⟨
  s_aload_n (k := 1) (show decode (cod 22) 16 = .ok (.aload_n 1, 1) by decide +kernel), List.forall_mem_cons.mpr ⟨
  s_aastore (show decode (cod 22) 17 = .ok (.aastore, 1) by decide +kernel), List.forall_mem_cons.mpr ⟨
  s_aload_n (k := 0) (show decode (cod 22) 18 = .ok (.aload_n 0, 1) by decide +kernel), List.forall_mem_cons.mpr ⟨
  s_dup (show decode (cod 22) 19 = .ok (.dup, 1) by decide +kernel), List.forall_mem_cons.mpr ⟨
  s_getI (show decode (cod 22) 20 = .ok (.getfield 17, 3) by decide +kernel) wd_83 (Or.inl rfl) (Or.inl rfl), List.forall_mem_cons.mpr ⟨
  s_iconst (show decode (cod 22) 23 = .ok (.iconst 1, 1) by decide +kernel) rfl, List.forall_mem_cons.mpr ⟨
  s_iadd (show decode (cod 22) 24 = .ok (.iadd, 1) by decide +kernel), List.forall_mem_cons.mpr ⟨
  s_putI (show decode (cod 22) 25 = .ok (.putfield 17, 3) by decide +kernel) wd_83 (Or.inl rfl) (Or.inl rfl) rfl, List.forall_mem_cons.mpr ⟨
  s_aload_n (k := 0) (show decode (cod 22) 28 = .ok (.aload_n 0, 1) by decide +kernel), List.forall_mem_cons.mpr ⟨
  s_invK rfl (rcv_virt (show decode (cod 22) 29 = .ok (.invokevirtual 68, 3) by decide +kernel) cld_22_23 ⟨6, _, _, rfl, by decide, rfl⟩ wd_151 wd_152 wd_153), List.forall_mem_cons.mpr ⟨
  s_aload_n (k := 1) (show decode (cod 22) 32 = .ok (.aload_n 1, 1) by decide +kernel), List.forall_mem_cons.mpr ⟨
  s_getI (show decode (cod 22) 33 = .ok (.getfield 71, 3) by decide +kernel) wd_154 (Or.inl rfl) (Or.inl rfl), List.forall_mem_cons.mpr ⟨
  s_iconst (show decode (cod 22) 36 = .ok (.iconst 3, 1) by decide +kernel) rfl, List.forall_mem_cons.mpr ⟨
  s_icmpeq (show decode (cod 22) 37 = .ok (.if_icmp .eq 11, 3) by decide +kernel) (by decide), List.forall_mem_cons.mpr ⟨
  s_aload_n (k := 1) (show decode (cod 22) 40 = .ok (.aload_n 1, 1) by decide +kernel), List.forall_mem_cons.mpr ⟨
  s_getI (show decode (cod 22) 41 = .ok (.getfield 71, 3) by decide +kernel) wd_154 (Or.inl rfl) (Or.inl rfl), List.forall_mem_cons.mpr ⟨
  s_iconst (show decode (cod 22) 44 = .ok (.iconst 5, 1) by decide +kernel) rfl, List.forall_mem_cons.mpr ⟨
  s_icmpne (show decode (cod 22) 45 = .ok (.if_icmp .ne 12, 3) by decide +kernel) (by decide), List.forall_mem_cons.mpr ⟨
  s_aload_n (k := 0) (show decode (cod 22) 48 = .ok (.aload_n 0, 1) by decide +kernel), List.forall_mem_cons.mpr ⟨
  s_aload_n (k := 1) (show decode (cod 22) 49 = .ok (.aload_n 1, 1) by decide +kernel), List.forall_mem_cons.mpr ⟨
  s_getI (show decode (cod 22) 50 = .ok (.getfield 74, 3) by decide +kernel) wd_155 (Or.inl rfl) (Or.inl rfl), List.forall_mem_cons.mpr ⟨
  s_invK rfl (rcv_virt (show decode (cod 22) 53 = .ok (.invokevirtual 77, 3) by decide +kernel) cld_22_24 ⟨6, _, _, rfl, by decide, rfl⟩ wd_157 wd_158 wd_159), List.forall_mem_cons.mpr ⟨
  s_ret (show decode (cod 22) 56 = .ok (.return_, 1) by decide +kernel) rV_ok (fun h => by cases h), List.forall_mem_cons.mpr ⟨
  s_aload_n (k := 0) (show decode (cod 22) 57 = .ok (.aload_n 0, 1) by decide +kernel), List.forall_mem_cons.mpr ⟨
  s_aload_n (k := 1) (show decode (cod 22) 58 = .ok (.aload_n 1, 1) by decide +kernel), List.forall_mem_cons.mpr ⟨
  s_getI (show decode (cod 22) 59 = .ok (.getfield 81, 3) by decide +kernel) wd_160 (Or.inl rfl) (Or.inl rfl), List.forall_mem_cons.mpr ⟨
  s_invK rfl (rcv_virt (show decode (cod 22) 62 = .ok (.invokevirtual 56, 3) by decide +kernel) cld_22_18 ⟨6, _, _, rfl, by decide, rfl⟩ wd_125 wd_126 wd_127), List.forall_mem_cons.mpr ⟨
  s_astore_n (k := 2) (show decode (cod 22) 65 = .ok (.astore_n 2, 1) by decide +kernel), List.forall_mem_cons.mpr ⟨
  s_aload_n (k := 2) (show decode (cod 22) 66 = .ok (.aload_n 2, 1) by decide +kernel), List.forall_mem_cons.mpr ⟨
  s_ifnull (show decode (cod 22) 67 = .ok (.ifnull 34, 3) by decide +kernel) (by decide), List.forall_mem_cons.mpr ⟨
  s_aload_n (k := 2) (show decode (cod 22) 70 = .ok (.aload_n 2, 1) by decide +kernel), List.forall_mem_cons.mpr ⟨
  s_aload_n (k := 1) (show decode (cod 22) 71 = .ok (.aload_n 1, 1) by decide +kernel), fun _ h => by cases h⟩⟩⟩⟩⟩⟩⟩⟩⟩⟩⟩⟩⟩⟩⟩⟩⟩⟩⟩⟩⟩⟩⟩⟩⟩⟩⟩⟩⟩⟩⟩⟩⟩⟩⟩⟩⟩⟩⟩⟩
set_option maxRecDepth 100000 in
set_option maxHeartbeats 4000000 in
theorem si22_1 (X : CX) (l : Launch) : ∀ q ∈ ([(72, iRI 75 (gtI 1)), (75, iP 76 (fAld 1)), (76, iRI 79 (gtI 2)), (79, iCV 82 3 0 [(1, 27, 3), (2, 25, 3), (3, 26, 3), (4, 27, 3), (10, 27, 3)]), (82, iP 83 (fAld 1)), (83, iRI 86 (gtI 1)), (86, iP 88 (fK (.inl 7))), (88, iB 91 101 (b2 (fun x y => decide (x = y)))), (91, iP 92 (fAld 0)), (92, iP 93 fDup), (93, iRI 96 (gtI 25)), (96, iP 97 (fK (.inl 1))), (97, iP 98 (f2I (fun x y => x - y))), (98, iW 101 (ptI 25)), (101, iRet rV)] : List (Nat × AS)), SI X l 22 q.1 q.2 := List.forall_mem_cons.mpr ⟨
  s_getI (show decode (cod 22) 72 = .ok (.getfield 71, 3) by decide +kernel) wd_154 (Or.inl rfl) (Or.inl rfl), List.forall_mem_cons.mpr ⟨
  s_aload_n (k := 1) (show decode (cod 22) 75 = .ok (.aload_n 1, 1) by decide +kernel), List.forall_mem_cons.mpr ⟨
  s_getI (show decode (cod 22) 76 = .ok (.getfield 74, 3) by decide +kernel) wd_155 (Or.inl rfl) (Or.inl rfl), List.forall_mem_cons.mpr ⟨
  s_invV (List.forall_mem_cons.mpr ⟨⟨rfl, rcv_U (C := "StepsAhead$Call") (show decode (cod 22) 79 = .ok (.invokevirtual 84, 3) by decide +kernel) cld_22_27 ⟨0, _, _, rfl, by decide, rfl⟩ wd_162 wd_163 wd_164 wd_165⟩, List.forall_mem_cons.mpr ⟨⟨rfl, rcv_O (mx0 := 27) (C := "StepsAhead$Either") (show decode (cod 22) 79 = .ok (.invokevirtual 84, 3) by decide +kernel) cld_22_25 ⟨1, _, _, rfl, by decide, rfl⟩ ⟨rfl, rfl, by decide, by decide⟩ wd_161 wd_162 wd_168 wd_164 wd_169 wd_163⟩, List.forall_mem_cons.mpr ⟨⟨rfl, rcv_O (mx0 := 27) (C := "StepsAhead$Loop") (show decode (cod 22) 79 = .ok (.invokevirtual 84, 3) by decide +kernel) cld_22_26 ⟨2, _, _, rfl, by decide, rfl⟩ ⟨rfl, rfl, by decide, by decide⟩ wd_161 wd_162 wd_172 wd_164 wd_173 wd_163⟩, List.forall_mem_cons.mpr ⟨⟨rfl, rcv_virt (show decode (cod 22) 79 = .ok (.invokevirtual 84, 3) by decide +kernel) cld_22_27 ⟨3, _, _, rfl, by decide, rfl⟩ wd_162 wd_163 wd_174⟩, List.forall_mem_cons.mpr ⟨⟨rfl, rcv_U (C := "StepsAhead$Work") (show decode (cod 22) 79 = .ok (.invokevirtual 84, 3) by decide +kernel) cld_22_27 ⟨9, _, _, rfl, by decide, rfl⟩ wd_162 wd_163 wd_164 wd_175⟩, fun _ h => by cases h⟩⟩⟩⟩⟩), List.forall_mem_cons.mpr ⟨
  s_aload_n (k := 1) (show decode (cod 22) 82 = .ok (.aload_n 1, 1) by decide +kernel), List.forall_mem_cons.mpr ⟨
  s_getI (show decode (cod 22) 83 = .ok (.getfield 71, 3) by decide +kernel) wd_154 (Or.inl rfl) (Or.inl rfl), List.forall_mem_cons.mpr ⟨
  s_bipush (show decode (cod 22) 86 = .ok (.bipush 7, 2) by decide +kernel) rfl, List.forall_mem_cons.mpr ⟨
  s_icmpeq (show decode (cod 22) 88 = .ok (.if_icmp .eq 13, 3) by decide +kernel) (by decide), List.forall_mem_cons.mpr ⟨
  s_aload_n (k := 0) (show decode (cod 22) 91 = .ok (.aload_n 0, 1) by decide +kernel), List.forall_mem_cons.mpr ⟨
  s_dup (show decode (cod 22) 92 = .ok (.dup, 1) by decide +kernel), List.forall_mem_cons.mpr ⟨
  s_getI (show decode (cod 22) 93 = .ok (.getfield 25, 3) by decide +kernel) wd_85 (Or.inl rfl) (Or.inl rfl), List.forall_mem_cons.mpr ⟨
  s_iconst (show decode (cod 22) 96 = .ok (.iconst 1, 1) by decide +kernel) rfl, List.forall_mem_cons.mpr ⟨
  s_isub (show decode (cod 22) 97 = .ok (.isub, 1) by decide +kernel), List.forall_mem_cons.mpr ⟨
  s_putI (show decode (cod 22) 98 = .ok (.putfield 25, 3) by decide +kernel) wd_85 (Or.inl rfl) (Or.inl rfl) rfl, List.forall_mem_cons.mpr ⟨
  s_ret (show decode (cod 22) 101 = .ok (.return_, 1) by decide +kernel) rV_ok (fun h => by cases h), fun _ h => by cases h⟩⟩⟩⟩⟩⟩⟩⟩⟩⟩⟩⟩⟩⟩⟩
set_option maxRecDepth 100000 in
theorem si22 (X : CX) (l : Launch) : ∀ q ∈ pt22, SI X l 22 q.1 q.2 := (List.forall_mem_append (l₁ := _) (l₂ := _)).mpr ⟨si22_0 X l, si22_1 X l⟩
set_option maxRecDepth 100000 in
set_option maxHeartbeats 4000000 in
theorem si23_0 (X : CX) (l : Launch) : ∀ q ∈ ([(0, iP 1 (fAld 0)), (1, iP 2 (fK (.inl 0))), (2, iW 5 (ptI 26)), (5, iP 6 (fK (.inl 0))), (6, iP 7 (fIst 1)), (7, iP 8 (fIld 1)), (8, iP 9 (fAld 0)), (9, iRI 12 (gtI 23)), (12, iB 15 57 (b2 (fun x y => decide (y ≤ x)))), (15, iP 16 (fAld 0)), (16, iP 17 (fIld 1)), (17, iCK 20 7 18 2 2 3), (20, iP 21 (fAst 3)), (21, iP 22 (fAld 3)), (22, iRI 25 (qInst [1] [2, 3, 4, 10])), (25, iB 28 51 (b1 (fun x => decide (x = 0)))), (28, iP 29 (fAld 3)), (29, iRR 32 (qCast [1])), (32, iP 33 (fAst 2)), (33, iP 34 (fAld 0)), (34, iP 35 fDup), (35, iRI 38 (gtI 26)), (38, iP 39 (fK (.inl 1))), (39, iP 40 (fAld 2)), (40, iRR 43 (gtR 6)), (43, iRI 46 (gtI 21)), (46, iP 47 (f2I (fun x y => x <<< (y &&& 31)))), (47, iP 48 (f2I (fun x y => x ||| y))), (48, iW 51 (ptI 26)), (51, iP 54 (fInc 1 1)), (54, iP 7 fGo), (57, iRet rV)] : List (Nat × AS)), SI X l 23 q.1 q.2 := List.forall_mem_cons.mpr ⟨
  s_aload_n (k := 0) (show decode (cod 23) 0 = .ok (.aload_n 0, 1) by decide +kernel), List.forall_mem_cons.mpr ⟨
  s_iconst (show decode (cod 23) 1 = .ok (.iconst 0, 1) by decide +kernel) rfl, List.forall_mem_cons.mpr ⟨
  s_putI (show decode (cod 23) 2 = .ok (.putfield 28, 3) by decide +kernel) wd_86 (Or.inl rfl) (Or.inl rfl) rfl, List.forall_mem_cons.mpr ⟨
  s_iconst (show decode (cod 23) 5 = .ok (.iconst 0, 1) by decide +kernel) rfl, List.forall_mem_cons.mpr ⟨
  s_istore_n (k := 1) (show decode (cod 23) 6 = .ok (.istore_n 1, 1) by decide +kernel), List.forall_mem_cons.mpr ⟨
  s_iload_n (k := 1) (show decode (cod 23) 7 = .ok (.iload_n 1, 1) by decide +kernel), List.forall_mem_cons.mpr ⟨
  s_aload_n (k := 0) (show decode (cod 23) 8 = .ok (.aload_n 0, 1) by decide +kernel), List.forall_mem_cons.mpr ⟨
  s_getI (show decode (cod 23) 9 = .ok (.getfield 17, 3) by decide +kernel) wd_83 (Or.inl rfl) (Or.inl rfl), List.forall_mem_cons.mpr ⟨
  s_icmpge (show decode (cod 23) 12 = .ok (.if_icmp .ge 45, 3) by decide +kernel) (by decide), List.forall_mem_cons.mpr ⟨
  s_aload_n (k := 0) (show decode (cod 23) 15 = .ok (.aload_n 0, 1) by decide +kernel), List.forall_mem_cons.mpr ⟨
  s_iload_n (k := 1) (show decode (cod 23) 16 = .ok (.iload_n 1, 1) by decide +kernel), List.forall_mem_cons.mpr ⟨
  s_invK rfl (rcv_virt (show decode (cod 23) 17 = .ok (.invokevirtual 56, 3) by decide +kernel) cld_23_18 ⟨6, _, _, rfl, by decide, rfl⟩ wd_125 wd_126 wd_127), List.forall_mem_cons.mpr ⟨
  s_astore_n (k := 3) (show decode (cod 23) 20 = .ok (.astore_n 3, 1) by decide +kernel), List.forall_mem_cons.mpr ⟨
  s_aload_n (k := 3) (show decode (cod 23) 21 = .ok (.aload_n 3, 1) by decide +kernel), List.forall_mem_cons.mpr ⟨
  s_inst (show decode (cod 23) 22 = .ok (.instanceof 62, 3) by decide +kernel) wd_176 (List.forall_mem_cons.mpr ⟨⟨"StepsAhead$Call", ⟨0, _, _, rfl, by decide, rfl⟩, Or.inl rfl⟩, fun _ h => by cases h⟩) (List.forall_mem_cons.mpr ⟨⟨"StepsAhead$Either", ⟨1, _, _, rfl, by decide, rfl⟩, Or.inl (by decide)⟩, List.forall_mem_cons.mpr ⟨⟨"StepsAhead$Loop", ⟨2, _, _, rfl, by decide, rfl⟩, Or.inl (by decide)⟩, List.forall_mem_cons.mpr ⟨⟨"StepsAhead$Op", ⟨3, _, _, rfl, by decide, rfl⟩, Or.inl (by decide)⟩, List.forall_mem_cons.mpr ⟨⟨"StepsAhead$Work", ⟨9, _, _, rfl, by decide, rfl⟩, Or.inl (by decide)⟩, fun _ h => by cases h⟩⟩⟩⟩), List.forall_mem_cons.mpr ⟨
  s_ifeq (show decode (cod 23) 25 = .ok (.ifCond .eq 26, 3) by decide +kernel) (by decide), List.forall_mem_cons.mpr ⟨
  s_aload_n (k := 3) (show decode (cod 23) 28 = .ok (.aload_n 3, 1) by decide +kernel), List.forall_mem_cons.mpr ⟨
  s_cast (show decode (cod 23) 29 = .ok (.checkcast 62, 3) by decide +kernel) wd_176 (List.forall_mem_cons.mpr ⟨⟨"StepsAhead$Call", ⟨0, _, _, rfl, by decide, rfl⟩, Or.inl rfl⟩, fun _ h => by cases h⟩), List.forall_mem_cons.mpr ⟨
  s_astore_n (k := 2) (show decode (cod 23) 32 = .ok (.astore_n 2, 1) by decide +kernel), List.forall_mem_cons.mpr ⟨
  s_aload_n (k := 0) (show decode (cod 23) 33 = .ok (.aload_n 0, 1) by decide +kernel), List.forall_mem_cons.mpr ⟨
  s_dup (show decode (cod 23) 34 = .ok (.dup, 1) by decide +kernel), List.forall_mem_cons.mpr ⟨
  s_getI (show decode (cod 23) 35 = .ok (.getfield 28, 3) by decide +kernel) wd_86 (Or.inl rfl) (Or.inl rfl), List.forall_mem_cons.mpr ⟨
  s_iconst (show decode (cod 23) 38 = .ok (.iconst 1, 1) by decide +kernel) rfl, List.forall_mem_cons.mpr ⟨
  s_aload_n (k := 2) (show decode (cod 23) 39 = .ok (.aload_n 2, 1) by decide +kernel), List.forall_mem_cons.mpr ⟨
  s_getR (show decode (cod 23) 40 = .ok (.getfield 88, 3) by decide +kernel) wd_177 (Or.inl rfl) rfl, List.forall_mem_cons.mpr ⟨
  s_getI (show decode (cod 23) 43 = .ok (.getfield 53, 3) by decide +kernel) wd_94 (Or.inl rfl) (Or.inl rfl), List.forall_mem_cons.mpr ⟨
  s_ishl (show decode (cod 23) 46 = .ok (.ishl, 1) by decide +kernel), List.forall_mem_cons.mpr ⟨
  s_ior (show decode (cod 23) 47 = .ok (.ior, 1) by decide +kernel), List.forall_mem_cons.mpr ⟨
  s_putI (show decode (cod 23) 48 = .ok (.putfield 28, 3) by decide +kernel) wd_86 (Or.inl rfl) (Or.inl rfl) rfl, List.forall_mem_cons.mpr ⟨
  s_iinc (show decode (cod 23) 51 = .ok (.iinc 1 1, 3) by decide +kernel) rfl, List.forall_mem_cons.mpr ⟨
  s_goto (show decode (cod 23) 54 = .ok (.goto (-47), 3) by decide +kernel) (by decide), List.forall_mem_cons.mpr ⟨
  s_ret (show decode (cod 23) 57 = .ok (.return_, 1) by decide +kernel) rV_ok (fun h => by cases h), fun _ h => by cases h⟩⟩⟩⟩⟩⟩⟩⟩⟩⟩⟩⟩⟩⟩⟩⟩⟩⟩⟩⟩⟩⟩⟩⟩⟩⟩⟩⟩⟩⟩⟩⟩
set_option maxRecDepth 100000 in
theorem si23 (X : CX) (l : Launch) : ∀ q ∈ pt23, SI X l 23 q.1 q.2 :=  si23_0 X l
set_option maxRecDepth 100000 in
set_option maxHeartbeats 4000000 in
theorem si24_0 (X : CX) (l : Launch) : ∀ q ∈ ([(0, iP 1 (fAld 0)), (1, iRI 4 (gtI 25)), (4, iB 7 36 (b1 (fun x => decide (x < 0)))), (7, iP 8 (fAld 0)), (8, iRI 11 (gtI 25)), (11, iP 13 (fK (.inl 24))), (13, iB 16 36 (b2 (fun x y => decide (y ≤ x)))), (16, iP 17 (fAld 0)), (17, iRR 20 (gtR 24)), (20, iP 21 (fAld 0)), (21, iRI 24 (gtI 25)), (24, iP 25 (fIld 1)), (25, iW 26 wAI), (26, iP 27 (fAld 0)), (27, iP 28 fDup), (28, iRI 31 (gtI 25)), (31, iP 32 (fK (.inl 1))), (32, iP 33 (f2I (fun x y => x + y))), (33, iW 36 (ptI 25)), (36, iRet rV)] : List (Nat × AS)), SI X l 24 q.1 q.2 := List.forall_mem_cons.mpr ⟨
  s_aload_n (k := 0) (show decode (cod 24) 0 = .ok (.aload_n 0, 1) by decide +kernel), List.forall_mem_cons.mpr ⟨
  s_getI (show decode (cod 24) 1 = .ok (.getfield 25, 3) by decide +kernel) wd_85 (Or.inl rfl) (Or.inl rfl), List.forall_mem_cons.mpr ⟨
  s_iflt (show decode (cod 24) 4 = .ok (.ifCond .lt 32, 3) by decide +kernel) (by decide), List.forall_mem_cons.mpr ⟨
  s_aload_n (k := 0) (show decode (cod 24) 7 = .ok (.aload_n 0, 1) by decide +kernel), List.forall_mem_cons.mpr ⟨
  s_getI (show decode (cod 24) 8 = .ok (.getfield 25, 3) by decide +kernel) wd_85 (Or.inl rfl) (Or.inl rfl), List.forall_mem_cons.mpr ⟨
  s_bipush (show decode (cod 24) 11 = .ok (.bipush 24, 2) by decide +kernel) rfl, List.forall_mem_cons.mpr ⟨
  s_icmpge (show decode (cod 24) 13 = .ok (.if_icmp .ge 23, 3) by decide +kernel) (by decide), List.forall_mem_cons.mpr ⟨
  s_aload_n (k := 0) (show decode (cod 24) 16 = .ok (.aload_n 0, 1) by decide +kernel), List.forall_mem_cons.mpr ⟨
  s_getR (show decode (cod 24) 17 = .ok (.getfield 21, 3) by decide +kernel) wd_84 (Or.inl rfl) rfl, List.forall_mem_cons.mpr ⟨
  s_aload_n (k := 0) (show decode (cod 24) 20 = .ok (.aload_n 0, 1) by decide +kernel), List.forall_mem_cons.mpr ⟨
  s_getI (show decode (cod 24) 21 = .ok (.getfield 25, 3) by decide +kernel) wd_85 (Or.inl rfl) (Or.inl rfl), List.forall_mem_cons.mpr ⟨
  s_iload_n (k := 1) (show decode (cod 24) 24 = .ok (.iload_n 1, 1) by decide +kernel), List.forall_mem_cons.mpr ⟨
  s_iastore (show decode (cod 24) 25 = .ok (.iastore, 1) by decide +kernel), List.forall_mem_cons.mpr ⟨
  s_aload_n (k := 0) (show decode (cod 24) 26 = .ok (.aload_n 0, 1) by decide +kernel), List.forall_mem_cons.mpr ⟨
  s_dup (show decode (cod 24) 27 = .ok (.dup, 1) by decide +kernel), List.forall_mem_cons.mpr ⟨
  s_getI (show decode (cod 24) 28 = .ok (.getfield 25, 3) by decide +kernel) wd_85 (Or.inl rfl) (Or.inl rfl), List.forall_mem_cons.mpr ⟨
  s_iconst (show decode (cod 24) 31 = .ok (.iconst 1, 1) by decide +kernel) rfl, List.forall_mem_cons.mpr ⟨
  s_iadd (show decode (cod 24) 32 = .ok (.iadd, 1) by decide +kernel), List.forall_mem_cons.mpr ⟨
  s_putI (show decode (cod 24) 33 = .ok (.putfield 25, 3) by decide +kernel) wd_85 (Or.inl rfl) (Or.inl rfl) rfl, List.forall_mem_cons.mpr ⟨
  s_ret (show decode (cod 24) 36 = .ok (.return_, 1) by decide +kernel) rV_ok (fun h => by cases h), fun _ h => by cases h⟩⟩⟩⟩⟩⟩⟩⟩⟩⟩⟩⟩⟩⟩⟩⟩⟩⟩⟩⟩
set_option maxRecDepth 100000 in
theorem si24 (X : CX) (l : Launch) : ∀ q ∈ pt24, SI X l 24 q.1 q.2 :=  si24_0 X l
set_option maxRecDepth 100000 in
set_option maxHeartbeats 4000000 in
theorem si25_0 (X : CX) (l : Launch) : ∀ q ∈ ([(0, iP 1 (fIld 1)), (1, iP 3 (fK (.inl 7))), (3, iB 6 14 (b2 (fun x y => decide (x ≠ y)))), (6, iP 7 (fAld 0)), (7, iP 8 (fIld 2)), (8, iW 11 (ptI 7)), (11, iP 19 fGo), (14, iP 15 (fAld 0)), (15, iP 16 (fIld 2)), (16, iW 19 (ptI 8)), (19, iRet rV)] : List (Nat × AS)), SI X l 25 q.1 q.2 := List.forall_mem_cons.mpr ⟨
  s_iload_n (k := 1) (show decode (cod 25) 0 = .ok (.iload_n 1, 1) by decide +kernel), List.forall_mem_cons.mpr ⟨
  s_bipush (show decode (cod 25) 1 = .ok (.bipush 7, 2) by decide +kernel) rfl, List.forall_mem_cons.mpr ⟨
  s_icmpne (show decode (cod 25) 3 = .ok (.if_icmp .ne 11, 3) by decide +kernel) (by decide), List.forall_mem_cons.mpr ⟨
  s_aload_n (k := 0) (show decode (cod 25) 6 = .ok (.aload_n 0, 1) by decide +kernel), List.forall_mem_cons.mpr ⟨
  s_iload_n (k := 2) (show decode (cod 25) 7 = .ok (.iload_n 2, 1) by decide +kernel), List.forall_mem_cons.mpr ⟨
  s_putI (show decode (cod 25) 8 = .ok (.putfield 9, 3) by decide +kernel) wd_178 (Or.inl rfl) (Or.inl rfl) rfl, List.forall_mem_cons.mpr ⟨
  s_goto (show decode (cod 25) 11 = .ok (.goto 8, 3) by decide +kernel) (by decide), List.forall_mem_cons.mpr ⟨
  s_aload_n (k := 0) (show decode (cod 25) 14 = .ok (.aload_n 0, 1) by decide +kernel), List.forall_mem_cons.mpr ⟨
  s_iload_n (k := 2) (show decode (cod 25) 15 = .ok (.iload_n 2, 1) by decide +kernel), List.forall_mem_cons.mpr ⟨
  s_putI (show decode (cod 25) 16 = .ok (.putfield 15, 3) by decide +kernel) wd_179 (Or.inl rfl) (Or.inl rfl) rfl, List.forall_mem_cons.mpr ⟨
  s_ret (show decode (cod 25) 19 = .ok (.return_, 1) by decide +kernel) rV_ok (fun h => by cases h), fun _ h => by cases h⟩⟩⟩⟩⟩⟩⟩⟩⟩⟩⟩
set_option maxRecDepth 100000 in
theorem si25 (X : CX) (l : Launch) : ∀ q ∈ pt25, SI X l 25 q.1 q.2 :=  si25_0 X l
set_option maxRecDepth 100000 in
set_option maxHeartbeats 4000000 in
theorem si26_0 (X : CX) (l : Launch) : ∀ q ∈ ([(0, iP 1 (fAld 0)), (1, iP 2 (fIld 2)), (2, iW 5 (ptI 11)), (5, iRet rV)] : List (Nat × AS)), SI X l 26 q.1 q.2 := List.forall_mem_cons.mpr ⟨
  s_aload_n (k := 0) (show decode (cod 26) 0 = .ok (.aload_n 0, 1) by decide +kernel), List.forall_mem_cons.mpr ⟨
  s_iload_n (k := 2) (show decode (cod 26) 1 = .ok (.iload_n 2, 1) by decide +kernel), List.forall_mem_cons.mpr ⟨
  s_putI (show decode (cod 26) 2 = .ok (.putfield 9, 3) by decide +kernel) wd_180 (Or.inl rfl) (Or.inl rfl) rfl, List.forall_mem_cons.mpr ⟨
  s_ret (show decode (cod 26) 5 = .ok (.return_, 1) by decide +kernel) rV_ok (fun h => by cases h), fun _ h => by cases h⟩⟩⟩⟩
set_option maxRecDepth 100000 in
theorem si26 (X : CX) (l : Launch) : ∀ q ∈ pt26, SI X l 26 q.1 q.2 :=  si26_0 X l
set_option maxRecDepth 100000 in
set_option maxHeartbeats 4000000 in
theorem si27_0 (X : CX) (l : Launch) : ∀ q ∈ ([(0, iRet rV)] : List (Nat × AS)), SI X l 27 q.1 q.2 := List.forall_mem_cons.mpr ⟨
  s_ret (show decode (cod 27) 0 = .ok (.return_, 1) by decide +kernel) rV_ok (fun h => by cases h), fun _ h => by cases h⟩
set_option maxRecDepth 100000 in
theorem si27 (X : CX) (l : Launch) : ∀ q ∈ pt27, SI X l 27 q.1 q.2 :=  si27_0 X l
set_option maxRecDepth 100000 in
set_option maxHeartbeats 4000000 in
theorem si28_0 (X : CX) (l : Launch) : ∀ q ∈ ([(0, iP 1 (fIld 1)), (1, iP 2 (fIst 2)), (2, iP 3 (fIld 2)), (3, iP 5 (fK (.inl 8))), (5, iB 8 23 (b2 (fun x y => decide (y ≤ x)))), (8, iP 9 (fAld 0)), (9, iRR 12 (gtR 43)), (12, iP 13 (fIld 2)), (13, iRR 14 qAR), (14, iCK 17 7 29 1 1 0), (17, iP 20 (fInc 2 1)), (20, iP 2 fGo), (23, iRet rV)] : List (Nat × AS)), SI X l 28 q.1 q.2 := List.forall_mem_cons.mpr ⟨
  s_iload_n (k := 1) (show decode (cod 28) 0 = .ok (.iload_n 1, 1) by decide +kernel), List.forall_mem_cons.mpr ⟨
  s_istore_n (k := 2) (show decode (cod 28) 1 = .ok (.istore_n 2, 1) by decide +kernel), List.forall_mem_cons.mpr ⟨
  s_iload_n (k := 2) (show decode (cod 28) 2 = .ok (.iload_n 2, 1) by decide +kernel), List.forall_mem_cons.mpr ⟨
  s_bipush (show decode (cod 28) 3 = .ok (.bipush 8, 2) by decide +kernel) rfl, List.forall_mem_cons.mpr ⟨
  s_icmpge (show decode (cod 28) 5 = .ok (.if_icmp .ge 18, 3) by decide +kernel) (by decide), List.forall_mem_cons.mpr ⟨
  s_aload_n (k := 0) (show decode (cod 28) 8 = .ok (.aload_n 0, 1) by decide +kernel), List.forall_mem_cons.mpr ⟨
  s_getR (show decode (cod 28) 9 = .ok (.getfield 11, 3) by decide +kernel) wd_4 (Or.inl rfl) rfl, List.forall_mem_cons.mpr ⟨
  s_iload_n (k := 2) (show decode (cod 28) 12 = .ok (.iload_n 2, 1) by decide +kernel), List.forall_mem_cons.mpr ⟨
  s_aaload (show decode (cod 28) 13 = .ok (.aaload, 1) by decide +kernel), List.forall_mem_cons.mpr ⟨
  s_invK rfl (rcv_virt (show decode (cod 28) 14 = .ok (.invokevirtual 223, 3) by decide +kernel) cld_28_29 ⟨6, _, _, rfl, by decide, rfl⟩ wd_182 wd_183 wd_184), List.forall_mem_cons.mpr ⟨
  s_iinc (show decode (cod 28) 17 = .ok (.iinc 2 1, 3) by decide +kernel) rfl, List.forall_mem_cons.mpr ⟨
  s_goto (show decode (cod 28) 20 = .ok (.goto (-18), 3) by decide +kernel) (by decide), List.forall_mem_cons.mpr ⟨
  s_ret (show decode (cod 28) 23 = .ok (.return_, 1) by decide +kernel) rV_ok (fun h => by cases h), fun _ h => by cases h⟩⟩⟩⟩⟩⟩⟩⟩⟩⟩⟩⟩⟩
set_option maxRecDepth 100000 in
theorem si28 (X : CX) (l : Launch) : ∀ q ∈ pt28, SI X l 28 q.1 q.2 :=  si28_0 X l
set_option maxRecDepth 100000 in
set_option maxHeartbeats 4000000 in
theorem si29_0 (X : CX) (l : Launch) : ∀ q ∈ ([(0, iP 1 (fAld 0)), (1, iRR 4 (gtR 28)), (4, iP 5 (fK (.inl 0))), (5, iP 6 (fK (.inl 0))), (6, iW 7 wAI), (7, iP 8 (fAld 0)), (8, iRR 11 (gtR 28)), (11, iP 12 (fK (.inl 1))), (12, iP 13 (fK (.inl 0))), (13, iW 14 wAI), (14, iRet rV)] : List (Nat × AS)), SI X l 29 q.1 q.2 := List.forall_mem_cons.mpr ⟨
  s_aload_n (k := 0) (show decode (cod 29) 0 = .ok (.aload_n 0, 1) by decide +kernel), List.forall_mem_cons.mpr ⟨
  s_getR (show decode (cod 29) 1 = .ok (.getfield 36, 3) by decide +kernel) wd_89 (Or.inl rfl) rfl, List.forall_mem_cons.mpr ⟨
  s_iconst (show decode (cod 29) 4 = .ok (.iconst 0, 1) by decide +kernel) rfl, List.forall_mem_cons.mpr ⟨
  s_iconst (show decode (cod 29) 5 = .ok (.iconst 0, 1) by decide +kernel) rfl, List.forall_mem_cons.mpr ⟨
  s_iastore (show decode (cod 29) 6 = .ok (.iastore, 1) by decide +kernel), List.forall_mem_cons.mpr ⟨
  s_aload_n (k := 0) (show decode (cod 29) 7 = .ok (.aload_n 0, 1) by decide +kernel), List.forall_mem_cons.mpr ⟨
  s_getR (show decode (cod 29) 8 = .ok (.getfield 36, 3) by decide +kernel) wd_89 (Or.inl rfl) rfl, List.forall_mem_cons.mpr ⟨
  s_iconst (show decode (cod 29) 11 = .ok (.iconst 1, 1) by decide +kernel) rfl, List.forall_mem_cons.mpr ⟨
  s_iconst (show decode (cod 29) 12 = .ok (.iconst 0, 1) by decide +kernel) rfl, List.forall_mem_cons.mpr ⟨
  s_iastore (show decode (cod 29) 13 = .ok (.iastore, 1) by decide +kernel), List.forall_mem_cons.mpr ⟨
  s_ret (show decode (cod 29) 14 = .ok (.return_, 1) by decide +kernel) rV_ok (fun h => by cases h), fun _ h => by cases h⟩⟩⟩⟩⟩⟩⟩⟩⟩⟩⟩
set_option maxRecDepth 100000 in
theorem si29 (X : CX) (l : Launch) : ∀ q ∈ pt29, SI X l 29 q.1 q.2 :=  si29_0 X l
set_option maxRecDepth 100000 in
set_option maxHeartbeats 4000000 in
theorem si30_0 (X : CX) (l : Launch) : ∀ q ∈ ([(0, iP 1 (fAld 0)), (1, iP 2 (fIld 1)), (2, iCK 5 11 15 2 2 3), (5, iP 6 (fAst 2)), (6, iP 7 (fAld 2)), (7, iB 10 13 bNN), (10, iP 12 (fK (.inl (-1000001)))), (12, iRet rI), (13, iP 14 (fAld 2)), (14, iCK 17 7 17 3 1 1), (17, iP 18 (fIst 3)), (18, iP 19 (fIld 3)), (19, iP 20 (fK (.inl 3))), (20, iB 23 26 (b2 (fun x y => decide (x < y)))), (23, iP 25 (fK (.inl (-1000002)))), (25, iRet rI), (26, iP 27 (fAld 2)), (27, iCK 30 7 16 1 1 1), (30, iB 33 36 (b1 (fun x => decide (x = 0)))), (33, iP 35 (fK (.inl (-1000003)))), (35, iRet rI), (36, iP 37 (fAld 0)), (37, iP 38 (fAld 2)), (38, iW 41 (wNew 3 6)), (41, iP 42 fDup), (42, iP 43 (fAld 2)), (43, iRI 46 (gtI 23)), (46, iP 47 (fIld 3)), (47, iP 48 (fAld 0)), (48, iRR 51 (gtR 45)), (51, iW 54 wCl), (54, iRR 57 (qCast [20])), (57, iCK 60 3 31 4 4 0), (60, iCK 63 11 21 3 3 1), (63, iRet rI)] : List (Nat × AS)), SI X l 30 q.1 q.2 := List.forall_mem_cons.mpr ⟨
  s_aload_n (k := 0) (show decode (cod 30) 0 = .ok (.aload_n 0, 1) by decide +kernel), List.forall_mem_cons.mpr ⟨
  s_iload_n (k := 1) (show decode (cod 30) 1 = .ok (.iload_n 1, 1) by decide +kernel), List.forall_mem_cons.mpr ⟨
  s_invK rfl (rcv_virt (show decode (cod 30) 2 = .ok (.invokevirtual 56, 3) by decide +kernel) cld_30_15 ⟨10, _, _, rfl, by decide, rfl⟩ wd_102 wd_103 wd_104), List.forall_mem_cons.mpr ⟨
  s_astore_n (k := 2) (show decode (cod 30) 5 = .ok (.astore_n 2, 1) by decide +kernel), List.forall_mem_cons.mpr ⟨
  s_aload_n (k := 2) (show decode (cod 30) 6 = .ok (.aload_n 2, 1) by decide +kernel), List.forall_mem_cons.mpr ⟨
  s_ifnonnull (show decode (cod 30) 7 = .ok (.ifnonnull 6, 3) by decide +kernel) (by decide), List.forall_mem_cons.mpr ⟨
  s_ldc (show decode (cod 30) 10 = .ok (.ldc 55, 2) by decide +kernel) wd_100, List.forall_mem_cons.mpr ⟨
  s_ret (show decode (cod 30) 12 = .ok (.ireturn, 1) by decide +kernel) rI_ok (fun h => by cases h), List.forall_mem_cons.mpr ⟨
  s_aload_n (k := 2) (show decode (cod 30) 13 = .ok (.aload_n 2, 1) by decide +kernel), List.forall_mem_cons.mpr ⟨
  s_invK rfl (rcv_virt (show decode (cod 30) 14 = .ok (.invokevirtual 69, 3) by decide +kernel) cld_30_17 ⟨6, _, _, rfl, by decide, rfl⟩ wd_114 wd_115 wd_116), List.forall_mem_cons.mpr ⟨
  s_istore_n (k := 3) (show decode (cod 30) 17 = .ok (.istore_n 3, 1) by decide +kernel), List.forall_mem_cons.mpr ⟨
  s_iload_n (k := 3) (show decode (cod 30) 18 = .ok (.iload_n 3, 1) by decide +kernel), List.forall_mem_cons.mpr ⟨
  s_iconst (show decode (cod 30) 19 = .ok (.iconst 3, 1) by decide +kernel) rfl, List.forall_mem_cons.mpr ⟨
  s_icmplt (show decode (cod 30) 20 = .ok (.if_icmp .lt 6, 3) by decide +kernel) (by decide), List.forall_mem_cons.mpr ⟨
  s_ldc (show decode (cod 30) 23 = .ok (.ldc 80, 2) by decide +kernel) wd_185, List.forall_mem_cons.mpr ⟨
  s_ret (show decode (cod 30) 25 = .ok (.ireturn, 1) by decide +kernel) rI_ok (fun h => by cases h), List.forall_mem_cons.mpr ⟨
  s_aload_n (k := 2) (show decode (cod 30) 26 = .ok (.aload_n 2, 1) by decide +kernel), List.forall_mem_cons.mpr ⟨
  s_invK rfl (rcv_virt (show decode (cod 30) 27 = .ok (.invokevirtual 60, 3) by decide +kernel) cld_30_16 ⟨6, _, _, rfl, by decide, rfl⟩ wd_106 wd_107 wd_108), List.forall_mem_cons.mpr ⟨
  s_ifeq (show decode (cod 30) 30 = .ok (.ifCond .eq 6, 3) by decide +kernel) (by decide), List.forall_mem_cons.mpr ⟨
  s_ldc (show decode (cod 30) 33 = .ok (.ldc 50, 2) by decide +kernel) wd_95, List.forall_mem_cons.mpr ⟨
  s_ret (show decode (cod 30) 35 = .ok (.ireturn, 1) by decide +kernel) rI_ok (fun h => by cases h), List.forall_mem_cons.mpr ⟨
  s_aload_n (k := 0) (show decode (cod 30) 36 = .ok (.aload_n 0, 1) by decide +kernel), List.forall_mem_cons.mpr ⟨
  s_aload_n (k := 2) (show decode (cod 30) 37 = .ok (.aload_n 2, 1) by decide +kernel), List.forall_mem_cons.mpr ⟨
  s_new (show decode (cod 30) 38 = .ok (.new 81, 3) by decide +kernel) (by decide) rfl wd_186 wd_187 wd_171, List.forall_mem_cons.mpr ⟨
  s_dup (show decode (cod 30) 41 = .ok (.dup, 1) by decide +kernel), List.forall_mem_cons.mpr ⟨
  s_aload_n (k := 2) (show decode (cod 30) 42 = .ok (.aload_n 2, 1) by decide +kernel), List.forall_mem_cons.mpr ⟨
  s_getI (show decode (cod 30) 43 = .ok (.getfield 66, 3) by decide +kernel) wd_112 (Or.inl rfl) (Or.inl rfl), List.forall_mem_cons.mpr ⟨
  s_iload_n (k := 3) (show decode (cod 30) 46 = .ok (.iload_n 3, 1) by decide +kernel), List.forall_mem_cons.mpr ⟨
  s_aload_n (k := 0) (show decode (cod 30) 47 = .ok (.aload_n 0, 1) by decide +kernel), List.forall_mem_cons.mpr ⟨
  s_getR (show decode (cod 30) 48 = .ok (.getfield 19, 3) by decide +kernel) wd_7 (Or.inl rfl) rfl, List.forall_mem_cons.mpr ⟨
  s_clone (show decode (cod 30) 51 = .ok (.invokevirtual 83, 3) by decide +kernel) wd_188 wd_189 wd_190 wd_191 wd_192 (by decide), List.forall_mem_cons.mpr ⟨
  s_castI (show decode (cod 30) 54 = .ok (.checkcast 84, 3) by decide +kernel) wd_193, List.forall_mem_cons.mpr ⟨
  s_invK rfl (rcv_init (C := "StepsAhead$Loop") (show decode (cod 30) 57 = .ok (.invokespecial 88, 3) by decide +kernel) cld_30_31 rfl rfl ⟨2, _, _, rfl, by decide, rfl⟩ wd_195 wd_196), List.forall_mem_cons.mpr ⟨
  s_invK rfl (rcv_virt (show decode (cod 30) 60 = .ok (.invokevirtual 76, 3) by decide +kernel) cld_30_21 ⟨10, _, _, rfl, by decide, rfl⟩ wd_121 wd_122 wd_123), List.forall_mem_cons.mpr ⟨
  s_ret (show decode (cod 30) 63 = .ok (.ireturn, 1) by decide +kernel) rI_ok (fun h => by cases h), fun _ h => by cases h⟩⟩⟩⟩⟩⟩⟩⟩⟩⟩⟩⟩⟩⟩⟩⟩⟩⟩⟩⟩⟩⟩⟩⟩⟩⟩⟩⟩⟩⟩⟩⟩⟩⟩⟩
set_option maxRecDepth 100000 in
theorem si30 (X : CX) (l : Launch) : ∀ q ∈ pt30, SI X l 30 q.1 q.2 :=  si30_0 X l
set_option maxRecDepth 100000 in
set_option maxHeartbeats 4000000 in
theorem si31_0 (X : CX) (l : Launch) : ∀ q ∈ ([(0, iP 1 (fAld 0)), (1, iP 2 (fK (.inl 3))), (2, iP 3 (fIld 1)), (3, iP 4 (fIld 2)), (4, iP 5 (fAld 3)), (5, iCK 8 3 32 5 5 0), (8, iP 9 (fAld 0)), (9, iP 10 (fK (.inl (-1)))), (10, iW 13 (ptI 11)), (13, iRet rV)] : List (Nat × AS)), SI X l 31 q.1 q.2 := List.forall_mem_cons.mpr ⟨
  s_aload_n (k := 0) (show decode (cod 31) 0 = .ok (.aload_n 0, 1) by decide +kernel), List.forall_mem_cons.mpr ⟨
  s_iconst (show decode (cod 31) 1 = .ok (.iconst 3, 1) by decide +kernel) rfl, List.forall_mem_cons.mpr ⟨
  s_iload_n (k := 1) (show decode (cod 31) 2 = .ok (.iload_n 1, 1) by decide +kernel), List.forall_mem_cons.mpr ⟨
  s_iload_n (k := 2) (show decode (cod 31) 3 = .ok (.iload_n 2, 1) by decide +kernel), List.forall_mem_cons.mpr ⟨
  s_aload_n (k := 3) (show decode (cod 31) 4 = .ok (.aload_n 3, 1) by decide +kernel), List.forall_mem_cons.mpr ⟨
  s_invK rfl (rcv_init (C := "StepsAhead$Loop") (show decode (cod 31) 5 = .ok (.invokespecial 3, 3) by decide +kernel) cld_31_32 rfl rfl ⟨2, _, _, rfl, by decide, rfl⟩ wd_199 wd_200), List.forall_mem_cons.mpr ⟨
  s_aload_n (k := 0) (show decode (cod 31) 8 = .ok (.aload_n 0, 1) by decide +kernel), List.forall_mem_cons.mpr ⟨
  s_iconst (show decode (cod 31) 9 = .ok (.iconst (-1), 1) by decide +kernel) rfl, List.forall_mem_cons.mpr ⟨
  s_putI (show decode (cod 31) 10 = .ok (.putfield 9, 3) by decide +kernel) wd_180 (Or.inl rfl) (Or.inl rfl) rfl, List.forall_mem_cons.mpr ⟨
  s_ret (show decode (cod 31) 13 = .ok (.return_, 1) by decide +kernel) rV_ok (fun h => by cases h), fun _ h => by cases h⟩⟩⟩⟩⟩⟩⟩⟩⟩⟩
set_option maxRecDepth 100000 in
theorem si31 (X : CX) (l : Launch) : ∀ q ∈ pt31, SI X l 31 q.1 q.2 :=  si31_0 X l
set_option maxRecDepth 100000 in
set_option maxHeartbeats 4000000 in
theorem si32_0 (X : CX) (l : Launch) : ∀ q ∈ ([(0, iP 1 (fAld 0)), (1, iP 2 (fIld 1)), (2, iP 3 (fIld 2)), (3, iP 4 (fIld 3)), (4, iP 5 (fK (.inl (-1)))), (5, iCV 8 5 0 [(1, 20, 5), (3, 20, 5)]), (8, iP 9 (fAld 0)), (9, iP 11 (fAld 4)), (11, iW 14 (ptR 0)), (14, iRet rV)] : List (Nat × AS)), SI X l 32 q.1 q.2 := List.forall_mem_cons.mpr ⟨
  s_aload_n (k := 0) (show decode (cod 32) 0 = .ok (.aload_n 0, 1) by decide +kernel), List.forall_mem_cons.mpr ⟨
  s_iload_n (k := 1) (show decode (cod 32) 1 = .ok (.iload_n 1, 1) by decide +kernel), List.forall_mem_cons.mpr ⟨
  s_iload_n (k := 2) (show decode (cod 32) 2 = .ok (.iload_n 2, 1) by decide +kernel), List.forall_mem_cons.mpr ⟨
  s_iload_n (k := 3) (show decode (cod 32) 3 = .ok (.iload_n 3, 1) by decide +kernel), List.forall_mem_cons.mpr ⟨
  s_iconst (show decode (cod 32) 4 = .ok (.iconst (-1), 1) by decide +kernel) rfl, List.forall_mem_cons.mpr ⟨
  s_invV (List.forall_mem_cons.mpr ⟨⟨rfl, rcv_init (C := "StepsAhead$Call") (show decode (cod 32) 5 = .ok (.invokespecial 3, 3) by decide +kernel) cld_32_20 rfl rfl ⟨0, _, _, rfl, by decide, rfl⟩ wd_201 wd_132⟩, List.forall_mem_cons.mpr ⟨⟨rfl, rcv_init (C := "StepsAhead$Loop") (show decode (cod 32) 5 = .ok (.invokespecial 3, 3) by decide +kernel) cld_32_20 rfl rfl ⟨2, _, _, rfl, by decide, rfl⟩ wd_201 wd_132⟩, fun _ h => by cases h⟩⟩), List.forall_mem_cons.mpr ⟨
  s_aload_n (k := 0) (show decode (cod 32) 8 = .ok (.aload_n 0, 1) by decide +kernel), List.forall_mem_cons.mpr ⟨
  s_aload (k := 4) (show decode (cod 32) 9 = .ok (.aload 4, 2) by decide +kernel), List.forall_mem_cons.mpr ⟨
  s_putR (show decode (cod 32) 11 = .ok (.putfield 9, 3) by decide +kernel) wd_202 (Or.inl rfl) (Or.inr ⟨rfl, rfl, rfl⟩) rfl, List.forall_mem_cons.mpr ⟨
  s_ret (show decode (cod 32) 14 = .ok (.return_, 1) by decide +kernel) rV_ok (fun h => by cases h), fun _ h => by cases h⟩⟩⟩⟩⟩⟩⟩⟩⟩⟩
set_option maxRecDepth 100000 in
theorem si32 (X : CX) (l : Launch) : ∀ q ∈ pt32, SI X l 32 q.1 q.2 :=  si32_0 X l
set_option maxRecDepth 100000 in
set_option maxHeartbeats 4000000 in
theorem si33_0 (X : CX) (l : Launch) : ∀ q ∈ ([(0, iP 1 (fAld 0)), (1, iP 2 (fIld 1)), (2, iCK 5 11 15 2 2 3), (5, iP 6 (fAst 3)), (6, iP 7 (fAld 0)), (7, iP 8 (fIld 2)), (8, iCK 11 11 15 2 2 3), (11, iP 13 (fAst 4)), (13, iP 14 (fAld 3)), (14, iB 17 27 bN), (17, iP 19 (fAld 4)), (19, iB 22 27 bN), (22, iP 23 (fIld 2)), (23, iP 24 (fIld 1)), (24, iB 27 30 (b2 (fun x y => decide (x < y)))), (27, iP 29 (fK (.inl (-1000001)))), (29, iRet rI), (30, iP 31 (fAld 3)), (31, iCK 34 7 16 1 1 1), (34, iB 37 40 (b1 (fun x => decide (x = 0)))), (37, iP 39 (fK (.inl (-1000003)))), (39, iRet rI), (40, iP 41 (fAld 0)), (41, iRR 44 (gtR 45)), (44, iW 47 wCl), (47, iRR 50 (qCast [20])), (50, iP 52 (fAst 5)), (52, iP 53 (fAld 0)), (53, iRR 56 (gtR 46)), (56, iW 59 wCl), (59, iRR 62 (qCast [20])), (62, iP 64 (fAst 6)), (64, iP 65 (fAld 0)), (65, iP 66 (fAld 3)), (66, iW 69 (wNew 1 7)), (69, iP 70 fDup), (70, iP 71 (fAld 3)), (71, iRI 74 (gtI 23)), (74, iP 75 (fAld 3)), (75, iCK 78 7 17 3 1 1)] : List (Nat × AS)), SI X l 33 q.1 q.2 := List.forall_mem_cons.mpr ⟨
  s_aload_n (k := 0) (show decode (cod 33) 0 = .ok (.aload_n 0, 1) by decide +kernel), List.forall_mem_cons.mpr ⟨
  s_iload_n (k := 1) (show decode (cod 33) 1 = .ok (.iload_n 1, 1) by decide +kernel), List.forall_mem_cons.mpr ⟨
  s_invK rfl (rcv_virt (show decode (cod 33) 2 = .ok (.invokevirtual 56, 3) by decide +kernel) cld_33_15 ⟨10, _, _, rfl, by decide, rfl⟩ wd_102 wd_103 wd_104), List.forall_mem_cons.mpr ⟨
  s_astore_n (k := 3) (show decode (cod 33) 5 = .ok (.astore_n 3, 1) by decide +kernel), List.forall_mem_cons.mpr ⟨
  s_aload_n (k := 0) (show decode (cod 33) 6 = .ok (.aload_n 0, 1) by decide +kernel), List.forall_mem_cons.mpr ⟨
  s_iload_n (k := 2) (show decode (cod 33) 7 = .ok (.iload_n 2, 1) by decide +kernel), List.forall_mem_cons.mpr ⟨
  s_invK rfl (rcv_virt (show decode (cod 33) 8 = .ok (.invokevirtual 56, 3) by decide +kernel) cld_33_15 ⟨10, _, _, rfl, by decide, rfl⟩ wd_102 wd_103 wd_104), List.forall_mem_cons.mpr ⟨
  s_astore (k := 4) (show decode (cod 33) 11 = .ok (.astore 4, 2) by decide +kernel), List.forall_mem_cons.mpr ⟨
  s_aload_n (k := 3) (show decode (cod 33) 13 = .ok (.aload_n 3, 1) by decide +kernel), List.forall_mem_cons.mpr ⟨
  s_ifnull (show decode (cod 33) 14 = .ok (.ifnull 13, 3) by decide +kernel) (by decide), List.forall_mem_cons.mpr ⟨
  s_aload (k := 4) (show decode (cod 33) 17 = .ok (.aload 4, 2) by decide +kernel), List.forall_mem_cons.mpr ⟨
  s_ifnull (show decode (cod 33) 19 = .ok (.ifnull 8, 3) by decide +kernel) (by decide), List.forall_mem_cons.mpr ⟨
  s_iload_n (k := 2) (show decode (cod 33) 22 = .ok (.iload_n 2, 1) by decide +kernel), List.forall_mem_cons.mpr ⟨
  s_iload_n (k := 1) (show decode (cod 33) 23 = .ok (.iload_n 1, 1) by decide +kernel), List.forall_mem_cons.mpr ⟨
  s_icmplt (show decode (cod 33) 24 = .ok (.if_icmp .lt 6, 3) by decide +kernel) (by decide), List.forall_mem_cons.mpr ⟨
  s_ldc (show decode (cod 33) 27 = .ok (.ldc 55, 2) by decide +kernel) wd_100, List.forall_mem_cons.mpr ⟨
  s_ret (show decode (cod 33) 29 = .ok (.ireturn, 1) by decide +kernel) rI_ok (fun h => by cases h), List.forall_mem_cons.mpr ⟨
  s_aload_n (k := 3) (show decode (cod 33) 30 = .ok (.aload_n 3, 1) by decide +kernel), List.forall_mem_cons.mpr ⟨
  s_invK rfl (rcv_virt (show decode (cod 33) 31 = .ok (.invokevirtual 60, 3) by decide +kernel) cld_33_16 ⟨6, _, _, rfl, by decide, rfl⟩ wd_106 wd_107 wd_108), List.forall_mem_cons.mpr ⟨
  s_ifeq (show decode (cod 33) 34 = .ok (.ifCond .eq 6, 3) by decide +kernel) (by decide), List.forall_mem_cons.mpr ⟨
  s_ldc (show decode (cod 33) 37 = .ok (.ldc 50, 2) by decide +kernel) wd_95, List.forall_mem_cons.mpr ⟨
  s_ret (show decode (cod 33) 39 = .ok (.ireturn, 1) by decide +kernel) rI_ok (fun h => by cases h), List.forall_mem_cons.mpr ⟨
  s_aload_n (k := 0) (show decode (cod 33) 40 = .ok (.aload_n 0, 1) by decide +kernel), List.forall_mem_cons.mpr ⟨
  s_getR (show decode (cod 33) 41 = .ok (.getfield 19, 3) by decide +kernel) wd_7 (Or.inl rfl) rfl, List.forall_mem_cons.mpr ⟨
  s_clone (show decode (cod 33) 44 = .ok (.invokevirtual 83, 3) by decide +kernel) wd_188 wd_189 wd_190 wd_191 wd_192 (by decide), List.forall_mem_cons.mpr ⟨
  s_castI (show decode (cod 33) 47 = .ok (.checkcast 84, 3) by decide +kernel) wd_193, List.forall_mem_cons.mpr ⟨
  s_astore (k := 5) (show decode (cod 33) 50 = .ok (.astore 5, 2) by decide +kernel), List.forall_mem_cons.mpr ⟨
  s_aload_n (k := 0) (show decode (cod 33) 52 = .ok (.aload_n 0, 1) by decide +kernel), List.forall_mem_cons.mpr ⟨
  s_getR (show decode (cod 33) 53 = .ok (.getfield 23, 3) by decide +kernel) wd_8 (Or.inl rfl) rfl, List.forall_mem_cons.mpr ⟨
  s_clone (show decode (cod 33) 56 = .ok (.invokevirtual 83, 3) by decide +kernel) wd_188 wd_189 wd_190 wd_191 wd_192 (by decide), List.forall_mem_cons.mpr ⟨
  s_castI (show decode (cod 33) 59 = .ok (.checkcast 84, 3) by decide +kernel) wd_193, List.forall_mem_cons.mpr ⟨
  s_astore (k := 6) (show decode (cod 33) 62 = .ok (.astore 6, 2) by decide +kernel), List.forall_mem_cons.mpr ⟨
  s_aload_n (k := 0) (show decode (cod 33) 64 = .ok (.aload_n 0, 1) by decide +kernel), List.forall_mem_cons.mpr ⟨
  s_aload_n (k := 3) (show decode (cod 33) 65 = .ok (.aload_n 3, 1) by decide +kernel), List.forall_mem_cons.mpr ⟨
  s_new (show decode (cod 33) 66 = .ok (.new 91, 3) by decide +kernel) (by decide) rfl wd_203 wd_204 wd_205, List.forall_mem_cons.mpr ⟨
  s_dup (show decode (cod 33) 69 = .ok (.dup, 1) by decide +kernel), List.forall_mem_cons.mpr ⟨
  s_aload_n (k := 3) (show decode (cod 33) 70 = .ok (.aload_n 3, 1) by decide +kernel), List.forall_mem_cons.mpr ⟨
  s_getI (show decode (cod 33) 71 = .ok (.getfield 66, 3) by decide +kernel) wd_112 (Or.inl rfl) (Or.inl rfl), List.forall_mem_cons.mpr ⟨
  s_aload_n (k := 3) (show decode (cod 33) 74 = .ok (.aload_n 3, 1) by decide +kernel), List.forall_mem_cons.mpr ⟨
  s_invK rfl (rcv_virt (show decode (cod 33) 75 = .ok (.invokevirtual 69, 3) by decide +kernel) cld_33_17 ⟨6, _, _, rfl, by decide, rfl⟩ wd_114 wd_115 wd_116), fun _ h => by cases h⟩⟩⟩⟩⟩⟩⟩⟩⟩⟩⟩⟩⟩⟩⟩⟩⟩⟩⟩⟩⟩⟩⟩⟩⟩⟩⟩⟩⟩⟩⟩⟩⟩⟩⟩⟩⟩⟩⟩⟩
set_option maxRecDepth 100000 in
set_option maxHeartbeats 4000000 in
theorem si33_1 (X : CX) (l : Launch) : ∀ q ∈ ([(78, iP 80 (fAld 5)), (80, iP 82 (fAld 6)), (82, iP 84 (fAld 4)), (84, iCK 87 1 34 6 6 0), (87, iCK 90 11 21 3 3 1), (90, iRet rI)] : List (Nat × AS)), SI X l 33 q.1 q.2 := List.forall_mem_cons.mpr ⟨
  s_aload (k := 5) (show decode (cod 33) 78 = .ok (.aload 5, 2) by decide +kernel), List.forall_mem_cons.mpr ⟨
  s_aload (k := 6) (show decode (cod 33) 80 = .ok (.aload 6, 2) by decide +kernel), List.forall_mem_cons.mpr ⟨
  s_aload (k := 4) (show decode (cod 33) 82 = .ok (.aload 4, 2) by decide +kernel), List.forall_mem_cons.mpr ⟨
  s_invK rfl (rcv_init (C := "StepsAhead$Call") (show decode (cod 33) 84 = .ok (.invokespecial 93, 3) by decide +kernel) cld_33_34 rfl rfl ⟨0, _, _, rfl, by decide, rfl⟩ wd_207 wd_208), List.forall_mem_cons.mpr ⟨
  s_invK rfl (rcv_virt (show decode (cod 33) 87 = .ok (.invokevirtual 76, 3) by decide +kernel) cld_33_21 ⟨10, _, _, rfl, by decide, rfl⟩ wd_121 wd_122 wd_123), List.forall_mem_cons.mpr ⟨
  s_ret (show decode (cod 33) 90 = .ok (.ireturn, 1) by decide +kernel) rI_ok (fun h => by cases h), fun _ h => by cases h⟩⟩⟩⟩⟩⟩
set_option maxRecDepth 100000 in
theorem si33 (X : CX) (l : Launch) : ∀ q ∈ pt33, SI X l 33 q.1 q.2 := (List.forall_mem_append (l₁ := _) (l₂ := _)).mpr ⟨si33_0 X l, si33_1 X l⟩
set_option maxRecDepth 100000 in
set_option maxHeartbeats 4000000 in
theorem si34_0 (X : CX) (l : Launch) : ∀ q ∈ ([(0, iP 1 (fAld 0)), (1, iP 2 (fK (.inl 4))), (2, iP 3 (fIld 1)), (3, iP 4 (fIld 2)), (4, iP 5 (fAld 3)), (5, iCK 8 1 32 5 5 0), (8, iP 9 (fAld 0)), (9, iP 11 (fAld 4)), (11, iW 14 (ptR 5)), (14, iP 15 (fAld 0)), (15, iP 17 (fAld 5)), (17, iW 20 (ptR 6)), (20, iRet rV)] : List (Nat × AS)), SI X l 34 q.1 q.2 := List.forall_mem_cons.mpr ⟨
  s_aload_n (k := 0) (show decode (cod 34) 0 = .ok (.aload_n 0, 1) by decide +kernel), List.forall_mem_cons.mpr ⟨
  s_iconst (show decode (cod 34) 1 = .ok (.iconst 4, 1) by decide +kernel) rfl, List.forall_mem_cons.mpr ⟨
  s_iload_n (k := 1) (show decode (cod 34) 2 = .ok (.iload_n 1, 1) by decide +kernel), List.forall_mem_cons.mpr ⟨
  s_iload_n (k := 2) (show decode (cod 34) 3 = .ok (.iload_n 2, 1) by decide +kernel), List.forall_mem_cons.mpr ⟨
  s_aload_n (k := 3) (show decode (cod 34) 4 = .ok (.aload_n 3, 1) by decide +kernel), List.forall_mem_cons.mpr ⟨
  s_invK rfl (rcv_init (C := "StepsAhead$Call") (show decode (cod 34) 5 = .ok (.invokespecial 3, 3) by decide +kernel) cld_34_32 rfl rfl ⟨0, _, _, rfl, by decide, rfl⟩ wd_209 wd_200), List.forall_mem_cons.mpr ⟨
  s_aload_n (k := 0) (show decode (cod 34) 8 = .ok (.aload_n 0, 1) by decide +kernel), List.forall_mem_cons.mpr ⟨
  s_aload (k := 4) (show decode (cod 34) 9 = .ok (.aload 4, 2) by decide +kernel), List.forall_mem_cons.mpr ⟨
  s_putR (show decode (cod 34) 11 = .ok (.putfield 9, 3) by decide +kernel) wd_210 (Or.inl rfl) (Or.inr ⟨rfl, rfl, rfl⟩) rfl, List.forall_mem_cons.mpr ⟨
  s_aload_n (k := 0) (show decode (cod 34) 14 = .ok (.aload_n 0, 1) by decide +kernel), List.forall_mem_cons.mpr ⟨
  s_aload (k := 5) (show decode (cod 34) 15 = .ok (.aload 5, 2) by decide +kernel), List.forall_mem_cons.mpr ⟨
  s_putR (show decode (cod 34) 17 = .ok (.putfield 15, 3) by decide +kernel) wd_211 (Or.inl rfl) (Or.inr ⟨rfl, rfl, rfl⟩) rfl, List.forall_mem_cons.mpr ⟨
  s_ret (show decode (cod 34) 20 = .ok (.return_, 1) by decide +kernel) rV_ok (fun h => by cases h), fun _ h => by cases h⟩⟩⟩⟩⟩⟩⟩⟩⟩⟩⟩⟩⟩
set_option maxRecDepth 100000 in
theorem si34 (X : CX) (l : Launch) : ∀ q ∈ pt34, SI X l 34 q.1 q.2 :=  si34_0 X l
set_option maxRecDepth 100000 in
set_option maxHeartbeats 4000000 in
theorem si35_0 (X : CX) (l : Launch) : ∀ q ∈ ([(0, iP 1 (fAld 0)), (1, iP 2 (fIld 1)), (2, iCK 5 11 15 2 2 3), (5, iP 6 (fAst 2)), (6, iP 7 (fAld 2)), (7, iB 10 13 bNN), (10, iP 12 (fK (.inl (-1000001)))), (12, iRet rI), (13, iP 14 (fAld 2)), (14, iCK 17 7 16 1 1 1), (17, iB 20 23 (b1 (fun x => decide (x = 0)))), (20, iP 22 (fK (.inl (-1000003)))), (22, iRet rI), (23, iP 24 (fAld 0)), (24, iP 25 (fAld 2)), (25, iW 28 (wNew 2 8)), (28, iP 29 fDup), (29, iP 30 (fAld 2)), (30, iRI 33 (gtI 23)), (33, iP 34 (fAld 2)), (34, iCK 37 7 17 3 1 1), (37, iCK 40 2 36 3 3 0), (40, iCK 43 11 21 3 3 1), (43, iRet rI)] : List (Nat × AS)), SI X l 35 q.1 q.2 := List.forall_mem_cons.mpr ⟨
  s_aload_n (k := 0) (show decode (cod 35) 0 = .ok (.aload_n 0, 1) by decide +kernel), List.forall_mem_cons.mpr ⟨
  s_iload_n (k := 1) (show decode (cod 35) 1 = .ok (.iload_n 1, 1) by decide +kernel), List.forall_mem_cons.mpr ⟨
  s_invK rfl (rcv_virt (show decode (cod 35) 2 = .ok (.invokevirtual 56, 3) by decide +kernel) cld_35_15 ⟨10, _, _, rfl, by decide, rfl⟩ wd_102 wd_103 wd_104), List.forall_mem_cons.mpr ⟨
  s_astore_n (k := 2) (show decode (cod 35) 5 = .ok (.astore_n 2, 1) by decide +kernel), List.forall_mem_cons.mpr ⟨
  s_aload_n (k := 2) (show decode (cod 35) 6 = .ok (.aload_n 2, 1) by decide +kernel), List.forall_mem_cons.mpr ⟨
  s_ifnonnull (show decode (cod 35) 7 = .ok (.ifnonnull 6, 3) by decide +kernel) (by decide), List.forall_mem_cons.mpr ⟨
  s_ldc (show decode (cod 35) 10 = .ok (.ldc 55, 2) by decide +kernel) wd_100, List.forall_mem_cons.mpr ⟨
  s_ret (show decode (cod 35) 12 = .ok (.ireturn, 1) by decide +kernel) rI_ok (fun h => by cases h), List.forall_mem_cons.mpr ⟨
  s_aload_n (k := 2) (show decode (cod 35) 13 = .ok (.aload_n 2, 1) by decide +kernel), List.forall_mem_cons.mpr ⟨
  s_invK rfl (rcv_virt (show decode (cod 35) 14 = .ok (.invokevirtual 60, 3) by decide +kernel) cld_35_16 ⟨6, _, _, rfl, by decide, rfl⟩ wd_106 wd_107 wd_108), List.forall_mem_cons.mpr ⟨
  s_ifeq (show decode (cod 35) 17 = .ok (.ifCond .eq 6, 3) by decide +kernel) (by decide), List.forall_mem_cons.mpr ⟨
  s_ldc (show decode (cod 35) 20 = .ok (.ldc 50, 2) by decide +kernel) wd_95, List.forall_mem_cons.mpr ⟨
  s_ret (show decode (cod 35) 22 = .ok (.ireturn, 1) by decide +kernel) rI_ok (fun h => by cases h), List.forall_mem_cons.mpr ⟨
  s_aload_n (k := 0) (show decode (cod 35) 23 = .ok (.aload_n 0, 1) by decide +kernel), List.forall_mem_cons.mpr ⟨
  s_aload_n (k := 2) (show decode (cod 35) 24 = .ok (.aload_n 2, 1) by decide +kernel), List.forall_mem_cons.mpr ⟨
  s_new (show decode (cod 35) 25 = .ok (.new 96, 3) by decide +kernel) (by decide) rfl wd_212 wd_213 wd_167, List.forall_mem_cons.mpr ⟨
  s_dup (show decode (cod 35) 28 = .ok (.dup, 1) by decide +kernel), List.forall_mem_cons.mpr ⟨
  s_aload_n (k := 2) (show decode (cod 35) 29 = .ok (.aload_n 2, 1) by decide +kernel), List.forall_mem_cons.mpr ⟨
  s_getI (show decode (cod 35) 30 = .ok (.getfield 66, 3) by decide +kernel) wd_112 (Or.inl rfl) (Or.inl rfl), List.forall_mem_cons.mpr ⟨
  s_aload_n (k := 2) (show decode (cod 35) 33 = .ok (.aload_n 2, 1) by decide +kernel), List.forall_mem_cons.mpr ⟨
  s_invK rfl (rcv_virt (show decode (cod 35) 34 = .ok (.invokevirtual 69, 3) by decide +kernel) cld_35_17 ⟨6, _, _, rfl, by decide, rfl⟩ wd_114 wd_115 wd_116), List.forall_mem_cons.mpr ⟨
  s_invK rfl (rcv_init (C := "StepsAhead$Either") (show decode (cod 35) 37 = .ok (.invokespecial 98, 3) by decide +kernel) cld_35_36 rfl rfl ⟨1, _, _, rfl, by decide, rfl⟩ wd_215 wd_216), List.forall_mem_cons.mpr ⟨
  s_invK rfl (rcv_virt (show decode (cod 35) 40 = .ok (.invokevirtual 76, 3) by decide +kernel) cld_35_21 ⟨10, _, _, rfl, by decide, rfl⟩ wd_121 wd_122 wd_123), List.forall_mem_cons.mpr ⟨
  s_ret (show decode (cod 35) 43 = .ok (.ireturn, 1) by decide +kernel) rI_ok (fun h => by cases h), fun _ h => by cases h⟩⟩⟩⟩⟩⟩⟩⟩⟩⟩⟩⟩⟩⟩⟩⟩⟩⟩⟩⟩⟩⟩⟩⟩
set_option maxRecDepth 100000 in
theorem si35 (X : CX) (l : Launch) : ∀ q ∈ pt35, SI X l 35 q.1 q.2 :=  si35_0 X l
set_option maxRecDepth 100000 in
set_option maxHeartbeats 4000000 in
theorem si36_0 (X : CX) (l : Launch) : ∀ q ∈ ([(0, iP 1 (fAld 0)), (1, iP 2 (fK (.inl 5))), (2, iP 3 (fIld 1)), (3, iP 4 (fIld 2)), (4, iP 5 (fK (.inl (-1)))), (5, iCK 8 2 20 5 5 0), (8, iP 9 (fAld 0)), (9, iP 10 (fK (.inl (-1)))), (10, iW 13 (ptI 7)), (13, iP 14 (fAld 0)), (14, iP 15 (fK (.inl (-1)))), (15, iW 18 (ptI 8)), (18, iP 19 (fAld 0)), (19, iP 20 (fK (.inl 0))), (20, iW 23 (ptI 9)), (23, iP 24 (fAld 0)), (24, iP 25 (fK (.inl 0))), (25, iW 28 (ptI 10)), (28, iRet rV)] : List (Nat × AS)), SI X l 36 q.1 q.2 := List.forall_mem_cons.mpr ⟨
  s_aload_n (k := 0) (show decode (cod 36) 0 = .ok (.aload_n 0, 1) by decide +kernel), List.forall_mem_cons.mpr ⟨
  s_iconst (show decode (cod 36) 1 = .ok (.iconst 5, 1) by decide +kernel) rfl, List.forall_mem_cons.mpr ⟨
  s_iload_n (k := 1) (show decode (cod 36) 2 = .ok (.iload_n 1, 1) by decide +kernel), List.forall_mem_cons.mpr ⟨
  s_iload_n (k := 2) (show decode (cod 36) 3 = .ok (.iload_n 2, 1) by decide +kernel), List.forall_mem_cons.mpr ⟨
  s_iconst (show decode (cod 36) 4 = .ok (.iconst (-1), 1) by decide +kernel) rfl, List.forall_mem_cons.mpr ⟨
  s_invK rfl (rcv_init (C := "StepsAhead$Either") (show decode (cod 36) 5 = .ok (.invokespecial 3, 3) by decide +kernel) cld_36_20 rfl rfl ⟨1, _, _, rfl, by decide, rfl⟩ wd_217 wd_132), List.forall_mem_cons.mpr ⟨
  s_aload_n (k := 0) (show decode (cod 36) 8 = .ok (.aload_n 0, 1) by decide +kernel), List.forall_mem_cons.mpr ⟨
  s_iconst (show decode (cod 36) 9 = .ok (.iconst (-1), 1) by decide +kernel) rfl, List.forall_mem_cons.mpr ⟨
  s_putI (show decode (cod 36) 10 = .ok (.putfield 9, 3) by decide +kernel) wd_178 (Or.inl rfl) (Or.inl rfl) rfl, List.forall_mem_cons.mpr ⟨
  s_aload_n (k := 0) (show decode (cod 36) 13 = .ok (.aload_n 0, 1) by decide +kernel), List.forall_mem_cons.mpr ⟨
  s_iconst (show decode (cod 36) 14 = .ok (.iconst (-1), 1) by decide +kernel) rfl, List.forall_mem_cons.mpr ⟨
  s_putI (show decode (cod 36) 15 = .ok (.putfield 15, 3) by decide +kernel) wd_179 (Or.inl rfl) (Or.inl rfl) rfl, List.forall_mem_cons.mpr ⟨
  s_aload_n (k := 0) (show decode (cod 36) 18 = .ok (.aload_n 0, 1) by decide +kernel), List.forall_mem_cons.mpr ⟨
  s_iconst (show decode (cod 36) 19 = .ok (.iconst 0, 1) by decide +kernel) rfl, List.forall_mem_cons.mpr ⟨
  s_putI (show decode (cod 36) 20 = .ok (.putfield 18, 3) by decide +kernel) wd_218 (Or.inl rfl) (Or.inl rfl) rfl, List.forall_mem_cons.mpr ⟨
  s_aload_n (k := 0) (show decode (cod 36) 23 = .ok (.aload_n 0, 1) by decide +kernel), List.forall_mem_cons.mpr ⟨
  s_iconst (show decode (cod 36) 24 = .ok (.iconst 0, 1) by decide +kernel) rfl, List.forall_mem_cons.mpr ⟨
  s_putI (show decode (cod 36) 25 = .ok (.putfield 21, 3) by decide +kernel) wd_219 (Or.inl rfl) (Or.inl rfl) rfl, List.forall_mem_cons.mpr ⟨
  s_ret (show decode (cod 36) 28 = .ok (.return_, 1) by decide +kernel) rV_ok (fun h => by cases h), fun _ h => by cases h⟩⟩⟩⟩⟩⟩⟩⟩⟩⟩⟩⟩⟩⟩⟩⟩⟩⟩⟩
set_option maxRecDepth 100000 in
theorem si36 (X : CX) (l : Launch) : ∀ q ∈ pt36, SI X l 36 q.1 q.2 :=  si36_0 X l
set_option maxRecDepth 100000 in
set_option maxHeartbeats 4000000 in
theorem si37_0 (X : CX) (l : Launch) : ∀ q ∈ ([(0, iP 1 (fAld 0)), (1, iP 2 (fIld 1)), (2, iCK 5 11 15 2 2 3), (5, iP 6 (fAst 3)), (6, iP 7 (fAld 3)), (7, iB 10 22 bN), (10, iP 11 (fIld 2)), (11, iP 13 (fK (.inl 6))), (13, iB 16 22 (b2 (fun x y => decide (x < y)))), (16, iP 17 (fIld 2)), (17, iP 19 (fK (.inl 8))), (19, iB 22 25 (b2 (fun x y => decide (x ≤ y)))), (22, iP 24 (fK (.inl (-1000001)))), (24, iRet rI), (25, iP 26 (fAld 3)), (26, iCK 29 7 38 2 1 3), (29, iP 31 (fAst 4)), (31, iP 33 (fAld 4)), (33, iB 36 45 bN), (36, iP 38 (fAld 4)), (38, iP 39 (fIld 2)), (39, iCV 42 2 1 [(1, 41, 2), (2, 39, 2), (3, 40, 2), (4, 41, 2), (10, 41, 2)]), (42, iB 45 48 (b1 (fun x => decide (x ≠ 0)))), (45, iP 47 (fK (.inl (-1000002)))), (47, iRet rI), (48, iP 49 (fAld 3)), (49, iCK 52 7 16 1 1 1), (52, iB 55 58 (b1 (fun x => decide (x = 0)))), (55, iP 57 (fK (.inl (-1000003)))), (57, iRet rI), (58, iP 59 (fAld 0)), (59, iP 60 (fAld 3)), (60, iW 63 (wNew 4 4)), (63, iP 64 fDup), (64, iP 65 (fIld 2)), (65, iP 66 (fAld 3)), (66, iRI 69 (gtI 23)), (69, iP 70 (fAld 3)), (70, iCK 73 7 17 3 1 1), (73, iP 75 (fAld 4))] : List (Nat × AS)), SI X l 37 q.1 q.2 := List.forall_mem_cons.mpr ⟨
  s_aload_n (k := 0) (show decode (cod 37) 0 = .ok (.aload_n 0, 1) by decide +kernel), List.forall_mem_cons.mpr ⟨
  s_iload_n (k := 1) (show decode (cod 37) 1 = .ok (.iload_n 1, 1) by decide +kernel), List.forall_mem_cons.mpr ⟨
  s_invK rfl (rcv_virt (show decode (cod 37) 2 = .ok (.invokevirtual 56, 3) by decide +kernel) cld_37_15 ⟨10, _, _, rfl, by decide, rfl⟩ wd_102 wd_103 wd_104), List.forall_mem_cons.mpr ⟨
  s_astore_n (k := 3) (show decode (cod 37) 5 = .ok (.astore_n 3, 1) by decide +kernel), List.forall_mem_cons.mpr ⟨
  s_aload_n (k := 3) (show decode (cod 37) 6 = .ok (.aload_n 3, 1) by decide +kernel), List.forall_mem_cons.mpr ⟨
  s_ifnull (show decode (cod 37) 7 = .ok (.ifnull 15, 3) by decide +kernel) (by decide), List.forall_mem_cons.mpr ⟨
  s_iload_n (k := 2) (show decode (cod 37) 10 = .ok (.iload_n 2, 1) by decide +kernel), List.forall_mem_cons.mpr ⟨
  s_bipush (show decode (cod 37) 11 = .ok (.bipush 6, 2) by decide +kernel) rfl, List.forall_mem_cons.mpr ⟨
  s_icmplt (show decode (cod 37) 13 = .ok (.if_icmp .lt 9, 3) by decide +kernel) (by decide), List.forall_mem_cons.mpr ⟨
  s_iload_n (k := 2) (show decode (cod 37) 16 = .ok (.iload_n 2, 1) by decide +kernel), List.forall_mem_cons.mpr ⟨
  s_bipush (show decode (cod 37) 17 = .ok (.bipush 8, 2) by decide +kernel) rfl, List.forall_mem_cons.mpr ⟨
  s_icmple (show decode (cod 37) 19 = .ok (.if_icmp .le 6, 3) by decide +kernel) (by decide), List.forall_mem_cons.mpr ⟨
  s_ldc (show decode (cod 37) 22 = .ok (.ldc 55, 2) by decide +kernel) wd_100, List.forall_mem_cons.mpr ⟨
  s_ret (show decode (cod 37) 24 = .ok (.ireturn, 1) by decide +kernel) rI_ok (fun h => by cases h), List.forall_mem_cons.mpr ⟨
  s_aload_n (k := 3) (show decode (cod 37) 25 = .ok (.aload_n 3, 1) by decide +kernel), List.forall_mem_cons.mpr ⟨
  s_invK rfl (rcv_virt (show decode (cod 37) 26 = .ok (.invokevirtual 101, 3) by decide +kernel) cld_37_38 ⟨6, _, _, rfl, by decide, rfl⟩ wd_221 wd_222 wd_223), List.forall_mem_cons.mpr ⟨
  s_astore (k := 4) (show decode (cod 37) 29 = .ok (.astore 4, 2) by decide +kernel), List.forall_mem_cons.mpr ⟨
  s_aload (k := 4) (show decode (cod 37) 31 = .ok (.aload 4, 2) by decide +kernel), List.forall_mem_cons.mpr ⟨
  s_ifnull (show decode (cod 37) 33 = .ok (.ifnull 12, 3) by decide +kernel) (by decide), List.forall_mem_cons.mpr ⟨
  s_aload (k := 4) (show decode (cod 37) 36 = .ok (.aload 4, 2) by decide +kernel), List.forall_mem_cons.mpr ⟨
  s_iload_n (k := 2) (show decode (cod 37) 38 = .ok (.iload_n 2, 1) by decide +kernel), List.forall_mem_cons.mpr ⟨
  s_invV (List.forall_mem_cons.mpr ⟨⟨rfl, rcv_U (C := "StepsAhead$Call") (show decode (cod 37) 39 = .ok (.invokevirtual 105, 3) by decide +kernel) cld_37_41 ⟨0, _, _, rfl, by decide, rfl⟩ wd_225 wd_226 wd_227 wd_228⟩, List.forall_mem_cons.mpr ⟨⟨rfl, rcv_O (mx0 := 41) (C := "StepsAhead$Either") (show decode (cod 37) 39 = .ok (.invokevirtual 105, 3) by decide +kernel) cld_37_39 ⟨1, _, _, rfl, by decide, rfl⟩ ⟨rfl, rfl, by decide, by decide⟩ wd_224 wd_225 wd_230 wd_227 wd_231 wd_226⟩, List.forall_mem_cons.mpr ⟨⟨rfl, rcv_O (mx0 := 41) (C := "StepsAhead$Loop") (show decode (cod 37) 39 = .ok (.invokevirtual 105, 3) by decide +kernel) cld_37_40 ⟨2, _, _, rfl, by decide, rfl⟩ ⟨rfl, rfl, by decide, by decide⟩ wd_224 wd_225 wd_233 wd_227 wd_234 wd_226⟩, List.forall_mem_cons.mpr ⟨⟨rfl, rcv_virt (show decode (cod 37) 39 = .ok (.invokevirtual 105, 3) by decide +kernel) cld_37_41 ⟨3, _, _, rfl, by decide, rfl⟩ wd_225 wd_226 wd_235⟩, List.forall_mem_cons.mpr ⟨⟨rfl, rcv_U (C := "StepsAhead$Work") (show decode (cod 37) 39 = .ok (.invokevirtual 105, 3) by decide +kernel) cld_37_41 ⟨9, _, _, rfl, by decide, rfl⟩ wd_225 wd_226 wd_227 wd_236⟩, fun _ h => by cases h⟩⟩⟩⟩⟩), List.forall_mem_cons.mpr ⟨
  s_ifne (show decode (cod 37) 42 = .ok (.ifCond .ne 6, 3) by decide +kernel) (by decide), List.forall_mem_cons.mpr ⟨
  s_ldc (show decode (cod 37) 45 = .ok (.ldc 80, 2) by decide +kernel) wd_185, List.forall_mem_cons.mpr ⟨
  s_ret (show decode (cod 37) 47 = .ok (.ireturn, 1) by decide +kernel) rI_ok (fun h => by cases h), List.forall_mem_cons.mpr ⟨
  s_aload_n (k := 3) (show decode (cod 37) 48 = .ok (.aload_n 3, 1) by decide +kernel), List.forall_mem_cons.mpr ⟨
  s_invK rfl (rcv_virt (show decode (cod 37) 49 = .ok (.invokevirtual 60, 3) by decide +kernel) cld_37_16 ⟨6, _, _, rfl, by decide, rfl⟩ wd_106 wd_107 wd_108), List.forall_mem_cons.mpr ⟨
  s_ifeq (show decode (cod 37) 52 = .ok (.ifCond .eq 6, 3) by decide +kernel) (by decide), List.forall_mem_cons.mpr ⟨
  s_ldc (show decode (cod 37) 55 = .ok (.ldc 50, 2) by decide +kernel) wd_95, List.forall_mem_cons.mpr ⟨
  s_ret (show decode (cod 37) 57 = .ok (.ireturn, 1) by decide +kernel) rI_ok (fun h => by cases h), List.forall_mem_cons.mpr ⟨
  s_aload_n (k := 0) (show decode (cod 37) 58 = .ok (.aload_n 0, 1) by decide +kernel), List.forall_mem_cons.mpr ⟨
  s_aload_n (k := 3) (show decode (cod 37) 59 = .ok (.aload_n 3, 1) by decide +kernel), List.forall_mem_cons.mpr ⟨
  s_new (show decode (cod 37) 60 = .ok (.new 106, 3) by decide +kernel) (by decide) rfl wd_237 wd_238 wd_130, List.forall_mem_cons.mpr ⟨
  s_dup (show decode (cod 37) 63 = .ok (.dup, 1) by decide +kernel), List.forall_mem_cons.mpr ⟨
  s_iload_n (k := 2) (show decode (cod 37) 64 = .ok (.iload_n 2, 1) by decide +kernel), List.forall_mem_cons.mpr ⟨
  s_aload_n (k := 3) (show decode (cod 37) 65 = .ok (.aload_n 3, 1) by decide +kernel), List.forall_mem_cons.mpr ⟨
  s_getI (show decode (cod 37) 66 = .ok (.getfield 66, 3) by decide +kernel) wd_112 (Or.inl rfl) (Or.inl rfl), List.forall_mem_cons.mpr ⟨
  s_aload_n (k := 3) (show decode (cod 37) 69 = .ok (.aload_n 3, 1) by decide +kernel), List.forall_mem_cons.mpr ⟨
  s_invK rfl (rcv_virt (show decode (cod 37) 70 = .ok (.invokevirtual 69, 3) by decide +kernel) cld_37_17 ⟨6, _, _, rfl, by decide, rfl⟩ wd_114 wd_115 wd_116), List.forall_mem_cons.mpr ⟨
  s_aload (k := 4) (show decode (cod 37) 73 = .ok (.aload 4, 2) by decide +kernel), fun _ h => by cases h⟩⟩⟩⟩⟩⟩⟩⟩⟩⟩⟩⟩⟩⟩⟩⟩⟩⟩⟩⟩⟩⟩⟩⟩⟩⟩⟩⟩⟩⟩⟩⟩⟩⟩⟩⟩⟩⟩⟩⟩
set_option maxRecDepth 100000 in
set_option maxHeartbeats 4000000 in
theorem si37_1 (X : CX) (l : Launch) : ∀ q ∈ ([(75, iRI 78 (gtI 2)), (78, iCK 81 4 20 5 5 0), (81, iCK 84 11 21 3 3 1), (84, iRet rI)] : List (Nat × AS)), SI X l 37 q.1 q.2 := List.forall_mem_cons.mpr ⟨
  s_getI (show decode (cod 37) 75 = .ok (.getfield 110, 3) by decide +kernel) wd_148 (Or.inl rfl) (Or.inl rfl), List.forall_mem_cons.mpr ⟨
  s_invK rfl (rcv_init (C := "StepsAhead$Op") (show decode (cod 37) 78 = .ok (.invokespecial 113, 3) by decide +kernel) cld_37_20 rfl rfl ⟨3, _, _, rfl, by decide, rfl⟩ wd_239 wd_132), List.forall_mem_cons.mpr ⟨
  s_invK rfl (rcv_virt (show decode (cod 37) 81 = .ok (.invokevirtual 76, 3) by decide +kernel) cld_37_21 ⟨10, _, _, rfl, by decide, rfl⟩ wd_121 wd_122 wd_123), List.forall_mem_cons.mpr ⟨
  s_ret (show decode (cod 37) 84 = .ok (.ireturn, 1) by decide +kernel) rI_ok (fun h => by cases h), fun _ h => by cases h⟩⟩⟩⟩
set_option maxRecDepth 100000 in
theorem si37 (X : CX) (l : Launch) : ∀ q ∈ pt37, SI X l 37 q.1 q.2 := (List.forall_mem_append (l₁ := _) (l₂ := _)).mpr ⟨si37_0 X l, si37_1 X l⟩
set_option maxRecDepth 100000 in
set_option maxHeartbeats 4000000 in
theorem si38_0 (X : CX) (l : Launch) : ∀ q ∈ ([(0, iP 1 (fAld 0)), (1, iRI 4 (gtI 25)), (4, iP 5 (fK (.inl 1))), (5, iP 6 (f2I (fun x y => x - y))), (6, iP 7 (fIst 1)), (7, iP 8 (fIld 1)), (8, iB 11 17 (b1 (fun x => decide (x < 0)))), (11, iP 12 (fIld 1)), (12, iP 14 (fK (.inl 24))), (14, iB 17 21 (b2 (fun x y => decide (x < y)))), (17, iP 18 (fK (.inr (.inr 0)))), (18, iP 31 fGo), (21, iP 22 (fAld 0)), (22, iP 23 (fAld 0)), (23, iRR 26 (gtR 24)), (26, iP 27 (fIld 1)), (27, iRI 28 qAI), (28, iCK 31 7 18 2 2 3), (31, iRet rA)] : List (Nat × AS)), SI X l 38 q.1 q.2 := List.forall_mem_cons.mpr ⟨
  s_aload_n (k := 0) (show decode (cod 38) 0 = .ok (.aload_n 0, 1) by decide +kernel), List.forall_mem_cons.mpr ⟨
  s_getI (show decode (cod 38) 1 = .ok (.getfield 25, 3) by decide +kernel) wd_85 (Or.inl rfl) (Or.inl rfl), List.forall_mem_cons.mpr ⟨
  s_iconst (show decode (cod 38) 4 = .ok (.iconst 1, 1) by decide +kernel) rfl, List.forall_mem_cons.mpr ⟨
  s_isub (show decode (cod 38) 5 = .ok (.isub, 1) by decide +kernel), List.forall_mem_cons.mpr ⟨
  s_istore_n (k := 1) (show decode (cod 38) 6 = .ok (.istore_n 1, 1) by decide +kernel), List.forall_mem_cons.mpr ⟨
  s_iload_n (k := 1) (show decode (cod 38) 7 = .ok (.iload_n 1, 1) by decide +kernel), List.forall_mem_cons.mpr ⟨
  s_iflt (show decode (cod 38) 8 = .ok (.ifCond .lt 9, 3) by decide +kernel) (by decide), List.forall_mem_cons.mpr ⟨
  s_iload_n (k := 1) (show decode (cod 38) 11 = .ok (.iload_n 1, 1) by decide +kernel), List.forall_mem_cons.mpr ⟨
  s_bipush (show decode (cod 38) 12 = .ok (.bipush 24, 2) by decide +kernel) rfl, List.forall_mem_cons.mpr ⟨
  s_icmplt (show decode (cod 38) 14 = .ok (.if_icmp .lt 7, 3) by decide +kernel) (by decide), List.forall_mem_cons.mpr ⟨
  s_null (show decode (cod 38) 17 = .ok (.aconst_null, 1) by decide +kernel), List.forall_mem_cons.mpr ⟨
  s_goto (show decode (cod 38) 18 = .ok (.goto 13, 3) by decide +kernel) (by decide), List.forall_mem_cons.mpr ⟨
  s_aload_n (k := 0) (show decode (cod 38) 21 = .ok (.aload_n 0, 1) by decide +kernel), List.forall_mem_cons.mpr ⟨
  s_aload_n (k := 0) (show decode (cod 38) 22 = .ok (.aload_n 0, 1) by decide +kernel), List.forall_mem_cons.mpr ⟨
  s_getR (show decode (cod 38) 23 = .ok (.getfield 21, 3) by decide +kernel) wd_84 (Or.inl rfl) rfl, List.forall_mem_cons.mpr ⟨
  s_iload_n (k := 1) (show decode (cod 38) 26 = .ok (.iload_n 1, 1) by decide +kernel), List.forall_mem_cons.mpr ⟨
  s_iaload (show decode (cod 38) 27 = .ok (.iaload, 1) by decide +kernel), List.forall_mem_cons.mpr ⟨
  s_invK rfl (rcv_virt (show decode (cod 38) 28 = .ok (.invokevirtual 56, 3) by decide +kernel) cld_38_18 ⟨6, _, _, rfl, by decide, rfl⟩ wd_125 wd_126 wd_127), List.forall_mem_cons.mpr ⟨
  s_ret (show decode (cod 38) 31 = .ok (.areturn, 1) by decide +kernel) rA_ok (fun h => by cases h), fun _ h => by cases h⟩⟩⟩⟩⟩⟩⟩⟩⟩⟩⟩⟩⟩⟩⟩⟩⟩⟩⟩
set_option maxRecDepth 100000 in
theorem si38 (X : CX) (l : Launch) : ∀ q ∈ pt38, SI X l 38 q.1 q.2 :=  si38_0 X l
