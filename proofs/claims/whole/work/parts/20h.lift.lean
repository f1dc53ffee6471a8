-- StepsAheadModel.worthOf(II)I
theorem PT_175 : PT 175 = pt175 := rfl
theorem k175_0 : lkp pt175 0 = iP 1 (fAld 0) := rfl
theorem k175_1 : lkp pt175 1 = iRR 4 (gtR 55) := rfl
theorem k175_4 : lkp pt175 4 = iP 6 (fK (.inl 12)) := rfl
theorem k175_6 : lkp pt175 6 = iP 7 (fIld 1) := rfl
theorem k175_7 : lkp pt175 7 = iP 8 (f2I (fun x y => x * y)) := rfl
theorem k175_8 : lkp pt175 8 = iP 10 (fK (.inl 6)) := rfl
theorem k175_10 : lkp pt175 10 = iP 11 (fIld 2) := rfl
theorem k175_11 : lkp pt175 11 = iP 12 (f2I (fun x y => x * y)) := rfl
theorem k175_12 : lkp pt175 12 = iP 13 (f2I (fun x y => x + y)) := rfl
theorem k175_13 : lkp pt175 13 = iRI 14 qAI := rfl
theorem k175_14 : lkp pt175 14 = iP 15 (fAld 0) := rfl
theorem k175_15 : lkp pt175 15 = iRR 18 (gtR 55) := rfl
theorem k175_18 : lkp pt175 18 = iP 20 (fK (.inl 12)) := rfl
theorem k175_20 : lkp pt175 20 = iP 21 (fIld 1) := rfl
theorem k175_21 : lkp pt175 21 = iP 22 (f2I (fun x y => x * y)) := rfl
theorem k175_22 : lkp pt175 22 = iP 24 (fK (.inl 6)) := rfl
theorem k175_24 : lkp pt175 24 = iP 25 (fIld 2) := rfl
theorem k175_25 : lkp pt175 25 = iP 26 (f2I (fun x y => x * y)) := rfl
theorem k175_26 : lkp pt175 26 = iP 27 (f2I (fun x y => x + y)) := rfl
theorem k175_27 : lkp pt175 27 = iP 28 (fK (.inl 1)) := rfl
theorem k175_28 : lkp pt175 28 = iP 29 (f2I (fun x y => x + y)) := rfl
theorem k175_29 : lkp pt175 29 = iRI 30 qAI := rfl
theorem k175_30 : lkp pt175 30 = iP 31 (fAld 0) := rfl
theorem k175_31 : lkp pt175 31 = iRI 34 (gtI 79) := rfl
theorem k175_34 : lkp pt175 34 = iP 35 (f2I (fun x y => x * y)) := rfl
theorem k175_35 : lkp pt175 35 = iP 36 (f2I (fun x y => x + y)) := rfl
theorem k175_36 : lkp pt175 36 = iP 37 (fAld 0) := rfl
theorem k175_37 : lkp pt175 37 = iRR 40 (gtR 55) := rfl
theorem k175_40 : lkp pt175 40 = iP 42 (fK (.inl 12)) := rfl
theorem k175_42 : lkp pt175 42 = iP 43 (fIld 1) := rfl
theorem k175_43 : lkp pt175 43 = iP 44 (f2I (fun x y => x * y)) := rfl
theorem k175_44 : lkp pt175 44 = iP 46 (fK (.inl 6)) := rfl
theorem k175_46 : lkp pt175 46 = iP 47 (fIld 2) := rfl
theorem k175_47 : lkp pt175 47 = iP 48 (f2I (fun x y => x * y)) := rfl
theorem k175_48 : lkp pt175 48 = iP 49 (f2I (fun x y => x + y)) := rfl
theorem k175_49 : lkp pt175 49 = iP 50 (fK (.inl 2)) := rfl
theorem k175_50 : lkp pt175 50 = iP 51 (f2I (fun x y => x + y)) := rfl
theorem k175_51 : lkp pt175 51 = iRI 52 qAI := rfl
theorem k175_52 : lkp pt175 52 = iP 53 (fAld 0) := rfl
theorem k175_53 : lkp pt175 53 = iRI 56 (gtI 80) := rfl
theorem k175_56 : lkp pt175 56 = iP 57 (f2I (fun x y => x * y)) := rfl
theorem k175_57 : lkp pt175 57 = iP 58 (f2I (fun x y => x + y)) := rfl
theorem k175_58 : lkp pt175 58 = iP 59 (fIst 3) := rfl
theorem k175_59 : lkp pt175 59 = iP 60 (fK (.inl 0)) := rfl
theorem k175_60 : lkp pt175 60 = iP 62 (fIst 4) := rfl
theorem k175_62 : lkp pt175 62 = iP 64 (fIld 4) := rfl
theorem k175_64 : lkp pt175 64 = iP 65 (fAld 0) := rfl
theorem k175_65 : lkp pt175 65 = iRI 68 (gtI 81) := rfl
theorem k175_68 : lkp pt175 68 = iB 71 107 (b2 (fun x y => decide (y ≤ x))) := rfl
theorem k175_71 : lkp pt175 71 = iP 72 (fIld 3) := rfl
theorem k175_72 : lkp pt175 72 = iP 73 (fAld 0) := rfl
theorem k175_73 : lkp pt175 73 = iRR 76 (gtR 55) := rfl
theorem k175_76 : lkp pt175 76 = iP 78 (fK (.inl 12)) := rfl
theorem k175_78 : lkp pt175 78 = iP 79 (fIld 1) := rfl
theorem k175_79 : lkp pt175 79 = iP 80 (f2I (fun x y => x * y)) := rfl
theorem k175_80 : lkp pt175 80 = iP 82 (fK (.inl 6)) := rfl
theorem k175_82 : lkp pt175 82 = iP 83 (fIld 2) := rfl
theorem k175_83 : lkp pt175 83 = iP 84 (f2I (fun x y => x * y)) := rfl
theorem k175_84 : lkp pt175 84 = iP 85 (f2I (fun x y => x + y)) := rfl
theorem k175_85 : lkp pt175 85 = iP 86 (fK (.inl 3)) := rfl
theorem k175_86 : lkp pt175 86 = iP 87 (f2I (fun x y => x + y)) := rfl
theorem k175_87 : lkp pt175 87 = iP 89 (fIld 4) := rfl
theorem k175_89 : lkp pt175 89 = iP 90 (f2I (fun x y => x + y)) := rfl
theorem k175_90 : lkp pt175 90 = iRI 91 qAI := rfl
theorem k175_91 : lkp pt175 91 = iP 92 (fAld 0) := rfl
theorem k175_92 : lkp pt175 92 = iRR 95 (gtR 82) := rfl
theorem k175_95 : lkp pt175 95 = iP 97 (fIld 4) := rfl
theorem k175_97 : lkp pt175 97 = iRI 98 qAI := rfl
theorem k175_98 : lkp pt175 98 = iP 99 (f2I (fun x y => x * y)) := rfl
theorem k175_99 : lkp pt175 99 = iP 100 (f2I (fun x y => x + y)) := rfl
theorem k175_100 : lkp pt175 100 = iP 101 (fIst 3) := rfl
theorem k175_101 : lkp pt175 101 = iP 104 (fInc 4 1) := rfl
theorem k175_104 : lkp pt175 104 = iP 62 fGo := rfl
theorem k175_107 : lkp pt175 107 = iP 108 (fIld 3) := rfl
theorem k175_108 : lkp pt175 108 = iRet rI := rfl
theorem b175_0 {G : AG} (hG : FIX G) (x0 : Nat) (x1 : Int32) (x2 : Int32) (H : Hp) : G 175 0 [some (.inr (.inr x0)), some (.inl x1), some (.inl x2), none, none] [] H = ((hgR H x0 55).bind fun r1 => (hAI H r1 (((12 * x1) + (6 * x2)))).bind fun i2 => (hgR H x0 55).bind fun r3 => (hAI H r3 ((((12 * x1) + (6 * x2)) + 1))).bind fun i4 => (hgI H x0 79).bind fun i5 => (hgR H x0 55).bind fun r6 => (hAI H r6 ((((12 * x1) + (6 * x2)) + 2))).bind fun i7 => (hgI H x0 80).bind fun i8 => G 175 62 [some (.inr (.inr x0)), some (.inl x1), some (.inl x2), some (.inl ((i2 + (i4 * i5)) + (i7 * i8))), some (.inl 0)] [] H) := by
  refine Eq.trans (e1 hG PT_175 k175_0 _ _ _) ?_
  show G 175 1 [some (.inr (.inr x0)), some (.inl x1), some (.inl x2), none, none] [.inr (.inr x0)] H = _
  refine Eq.trans (e1 hG PT_175 k175_1 _ _ _) ?_
  refine bdc fun r1 => ?_
  show G 175 4 [some (.inr (.inr x0)), some (.inl x1), some (.inl x2), none, none] [.inr (.inr r1)] H = _
  refine Eq.trans (e1 hG PT_175 k175_4 _ _ _) ?_
  show G 175 6 [some (.inr (.inr x0)), some (.inl x1), some (.inl x2), none, none] [.inl 12, .inr (.inr r1)] H = _
  refine Eq.trans (e1 hG PT_175 k175_6 _ _ _) ?_
  show G 175 7 [some (.inr (.inr x0)), some (.inl x1), some (.inl x2), none, none] [.inl x1, .inl 12, .inr (.inr r1)] H = _
  refine Eq.trans (e1 hG PT_175 k175_7 _ _ _) ?_
  show G 175 8 [some (.inr (.inr x0)), some (.inl x1), some (.inl x2), none, none] [.inl (12 * x1), .inr (.inr r1)] H = _
  refine Eq.trans (e1 hG PT_175 k175_8 _ _ _) ?_
  show G 175 10 [some (.inr (.inr x0)), some (.inl x1), some (.inl x2), none, none] [.inl 6, .inl (12 * x1), .inr (.inr r1)] H = _
  refine Eq.trans (e1 hG PT_175 k175_10 _ _ _) ?_
  show G 175 11 [some (.inr (.inr x0)), some (.inl x1), some (.inl x2), none, none] [.inl x2, .inl 6, .inl (12 * x1), .inr (.inr r1)] H = _
  refine Eq.trans (e1 hG PT_175 k175_11 _ _ _) ?_
  show G 175 12 [some (.inr (.inr x0)), some (.inl x1), some (.inl x2), none, none] [.inl (6 * x2), .inl (12 * x1), .inr (.inr r1)] H = _
  refine Eq.trans (e1 hG PT_175 k175_12 _ _ _) ?_
  show G 175 13 [some (.inr (.inr x0)), some (.inl x1), some (.inl x2), none, none] [.inl ((12 * x1) + (6 * x2)), .inr (.inr r1)] H = _
  refine Eq.trans (e1 hG PT_175 k175_13 _ _ _) ?_
  refine bdc fun i2 => ?_
  show G 175 14 [some (.inr (.inr x0)), some (.inl x1), some (.inl x2), none, none] [.inl i2] H = _
  refine Eq.trans (e1 hG PT_175 k175_14 _ _ _) ?_
  show G 175 15 [some (.inr (.inr x0)), some (.inl x1), some (.inl x2), none, none] [.inr (.inr x0), .inl i2] H = _
  refine Eq.trans (e1 hG PT_175 k175_15 _ _ _) ?_
  refine bdc fun r3 => ?_
  show G 175 18 [some (.inr (.inr x0)), some (.inl x1), some (.inl x2), none, none] [.inr (.inr r3), .inl i2] H = _
  refine Eq.trans (e1 hG PT_175 k175_18 _ _ _) ?_
  show G 175 20 [some (.inr (.inr x0)), some (.inl x1), some (.inl x2), none, none] [.inl 12, .inr (.inr r3), .inl i2] H = _
  refine Eq.trans (e1 hG PT_175 k175_20 _ _ _) ?_
  show G 175 21 [some (.inr (.inr x0)), some (.inl x1), some (.inl x2), none, none] [.inl x1, .inl 12, .inr (.inr r3), .inl i2] H = _
  refine Eq.trans (e1 hG PT_175 k175_21 _ _ _) ?_
  show G 175 22 [some (.inr (.inr x0)), some (.inl x1), some (.inl x2), none, none] [.inl (12 * x1), .inr (.inr r3), .inl i2] H = _
  refine Eq.trans (e1 hG PT_175 k175_22 _ _ _) ?_
  show G 175 24 [some (.inr (.inr x0)), some (.inl x1), some (.inl x2), none, none] [.inl 6, .inl (12 * x1), .inr (.inr r3), .inl i2] H = _
  refine Eq.trans (e1 hG PT_175 k175_24 _ _ _) ?_
  show G 175 25 [some (.inr (.inr x0)), some (.inl x1), some (.inl x2), none, none] [.inl x2, .inl 6, .inl (12 * x1), .inr (.inr r3), .inl i2] H = _
  refine Eq.trans (e1 hG PT_175 k175_25 _ _ _) ?_
  show G 175 26 [some (.inr (.inr x0)), some (.inl x1), some (.inl x2), none, none] [.inl (6 * x2), .inl (12 * x1), .inr (.inr r3), .inl i2] H = _
  refine Eq.trans (e1 hG PT_175 k175_26 _ _ _) ?_
  show G 175 27 [some (.inr (.inr x0)), some (.inl x1), some (.inl x2), none, none] [.inl ((12 * x1) + (6 * x2)), .inr (.inr r3), .inl i2] H = _
  refine Eq.trans (e1 hG PT_175 k175_27 _ _ _) ?_
  show G 175 28 [some (.inr (.inr x0)), some (.inl x1), some (.inl x2), none, none] [.inl 1, .inl ((12 * x1) + (6 * x2)), .inr (.inr r3), .inl i2] H = _
  refine Eq.trans (e1 hG PT_175 k175_28 _ _ _) ?_
  show G 175 29 [some (.inr (.inr x0)), some (.inl x1), some (.inl x2), none, none] [.inl (((12 * x1) + (6 * x2)) + 1), .inr (.inr r3), .inl i2] H = _
  refine Eq.trans (e1 hG PT_175 k175_29 _ _ _) ?_
  refine bdc fun i4 => ?_
  show G 175 30 [some (.inr (.inr x0)), some (.inl x1), some (.inl x2), none, none] [.inl i4, .inl i2] H = _
  refine Eq.trans (e1 hG PT_175 k175_30 _ _ _) ?_
  show G 175 31 [some (.inr (.inr x0)), some (.inl x1), some (.inl x2), none, none] [.inr (.inr x0), .inl i4, .inl i2] H = _
  refine Eq.trans (e1 hG PT_175 k175_31 _ _ _) ?_
  refine bdc fun i5 => ?_
  show G 175 34 [some (.inr (.inr x0)), some (.inl x1), some (.inl x2), none, none] [.inl i5, .inl i4, .inl i2] H = _
  refine Eq.trans (e1 hG PT_175 k175_34 _ _ _) ?_
  show G 175 35 [some (.inr (.inr x0)), some (.inl x1), some (.inl x2), none, none] [.inl (i4 * i5), .inl i2] H = _
  refine Eq.trans (e1 hG PT_175 k175_35 _ _ _) ?_
  show G 175 36 [some (.inr (.inr x0)), some (.inl x1), some (.inl x2), none, none] [.inl (i2 + (i4 * i5))] H = _
  refine Eq.trans (e1 hG PT_175 k175_36 _ _ _) ?_
  show G 175 37 [some (.inr (.inr x0)), some (.inl x1), some (.inl x2), none, none] [.inr (.inr x0), .inl (i2 + (i4 * i5))] H = _
  refine Eq.trans (e1 hG PT_175 k175_37 _ _ _) ?_
  refine bdc fun r6 => ?_
  show G 175 40 [some (.inr (.inr x0)), some (.inl x1), some (.inl x2), none, none] [.inr (.inr r6), .inl (i2 + (i4 * i5))] H = _
  refine Eq.trans (e1 hG PT_175 k175_40 _ _ _) ?_
  show G 175 42 [some (.inr (.inr x0)), some (.inl x1), some (.inl x2), none, none] [.inl 12, .inr (.inr r6), .inl (i2 + (i4 * i5))] H = _
  refine Eq.trans (e1 hG PT_175 k175_42 _ _ _) ?_
  show G 175 43 [some (.inr (.inr x0)), some (.inl x1), some (.inl x2), none, none] [.inl x1, .inl 12, .inr (.inr r6), .inl (i2 + (i4 * i5))] H = _
  refine Eq.trans (e1 hG PT_175 k175_43 _ _ _) ?_
  show G 175 44 [some (.inr (.inr x0)), some (.inl x1), some (.inl x2), none, none] [.inl (12 * x1), .inr (.inr r6), .inl (i2 + (i4 * i5))] H = _
  refine Eq.trans (e1 hG PT_175 k175_44 _ _ _) ?_
  show G 175 46 [some (.inr (.inr x0)), some (.inl x1), some (.inl x2), none, none] [.inl 6, .inl (12 * x1), .inr (.inr r6), .inl (i2 + (i4 * i5))] H = _
  refine Eq.trans (e1 hG PT_175 k175_46 _ _ _) ?_
  show G 175 47 [some (.inr (.inr x0)), some (.inl x1), some (.inl x2), none, none] [.inl x2, .inl 6, .inl (12 * x1), .inr (.inr r6), .inl (i2 + (i4 * i5))] H = _
  refine Eq.trans (e1 hG PT_175 k175_47 _ _ _) ?_
  show G 175 48 [some (.inr (.inr x0)), some (.inl x1), some (.inl x2), none, none] [.inl (6 * x2), .inl (12 * x1), .inr (.inr r6), .inl (i2 + (i4 * i5))] H = _
  refine Eq.trans (e1 hG PT_175 k175_48 _ _ _) ?_
  show G 175 49 [some (.inr (.inr x0)), some (.inl x1), some (.inl x2), none, none] [.inl ((12 * x1) + (6 * x2)), .inr (.inr r6), .inl (i2 + (i4 * i5))] H = _
  refine Eq.trans (e1 hG PT_175 k175_49 _ _ _) ?_
  show G 175 50 [some (.inr (.inr x0)), some (.inl x1), some (.inl x2), none, none] [.inl 2, .inl ((12 * x1) + (6 * x2)), .inr (.inr r6), .inl (i2 + (i4 * i5))] H = _
  refine Eq.trans (e1 hG PT_175 k175_50 _ _ _) ?_
  show G 175 51 [some (.inr (.inr x0)), some (.inl x1), some (.inl x2), none, none] [.inl (((12 * x1) + (6 * x2)) + 2), .inr (.inr r6), .inl (i2 + (i4 * i5))] H = _
  refine Eq.trans (e1 hG PT_175 k175_51 _ _ _) ?_
  refine bdc fun i7 => ?_
  show G 175 52 [some (.inr (.inr x0)), some (.inl x1), some (.inl x2), none, none] [.inl i7, .inl (i2 + (i4 * i5))] H = _
  refine Eq.trans (e1 hG PT_175 k175_52 _ _ _) ?_
  show G 175 53 [some (.inr (.inr x0)), some (.inl x1), some (.inl x2), none, none] [.inr (.inr x0), .inl i7, .inl (i2 + (i4 * i5))] H = _
  refine Eq.trans (e1 hG PT_175 k175_53 _ _ _) ?_
  refine bdc fun i8 => ?_
  show G 175 56 [some (.inr (.inr x0)), some (.inl x1), some (.inl x2), none, none] [.inl i8, .inl i7, .inl (i2 + (i4 * i5))] H = _
  refine Eq.trans (e1 hG PT_175 k175_56 _ _ _) ?_
  show G 175 57 [some (.inr (.inr x0)), some (.inl x1), some (.inl x2), none, none] [.inl (i7 * i8), .inl (i2 + (i4 * i5))] H = _
  refine Eq.trans (e1 hG PT_175 k175_57 _ _ _) ?_
  show G 175 58 [some (.inr (.inr x0)), some (.inl x1), some (.inl x2), none, none] [.inl ((i2 + (i4 * i5)) + (i7 * i8))] H = _
  refine Eq.trans (e1 hG PT_175 k175_58 _ _ _) ?_
  show G 175 59 [some (.inr (.inr x0)), some (.inl x1), some (.inl x2), some (.inl ((i2 + (i4 * i5)) + (i7 * i8))), none] [] H = _
  refine Eq.trans (e1 hG PT_175 k175_59 _ _ _) ?_
  show G 175 60 [some (.inr (.inr x0)), some (.inl x1), some (.inl x2), some (.inl ((i2 + (i4 * i5)) + (i7 * i8))), none] [.inl 0] H = _
  refine Eq.trans (e1 hG PT_175 k175_60 _ _ _) ?_
  rfl
theorem b175_62 {G : AG} (hG : FIX G) (x0 : Nat) (x1 : Int32) (x2 : Int32) (x3 : Int32) (x4 : Int32) (H : Hp) : G 175 62 [some (.inr (.inr x0)), some (.inl x1), some (.inl x2), some (.inl x3), some (.inl x4)] [] H = ((hgI H x0 81).bind fun i1 => bif decide ((i1 : Int32) ≤ (x4 : Int32)) then some (some (.inl x3), H) else (hgR H x0 55).bind fun r2 => (hAI H r2 (((((12 * x1) + (6 * x2)) + 3) + x4))).bind fun i3 => (hgR H x0 82).bind fun r4 => (hAI H r4 x4).bind fun i5 => G 175 62 [some (.inr (.inr x0)), some (.inl x1), some (.inl x2), some (.inl (x3 + (i3 * i5))), some (.inl (x4 + 1))] [] H) := by
  refine Eq.trans (e1 hG PT_175 k175_62 _ _ _) ?_
  show G 175 64 [some (.inr (.inr x0)), some (.inl x1), some (.inl x2), some (.inl x3), some (.inl x4)] [.inl x4] H = _
  refine Eq.trans (e1 hG PT_175 k175_64 _ _ _) ?_
  show G 175 65 [some (.inr (.inr x0)), some (.inl x1), some (.inl x2), some (.inl x3), some (.inl x4)] [.inr (.inr x0), .inl x4] H = _
  refine Eq.trans (e1 hG PT_175 k175_65 _ _ _) ?_
  refine bdc fun i1 => ?_
  show G 175 68 [some (.inr (.inr x0)), some (.inl x1), some (.inl x2), some (.inl x3), some (.inl x4)] [.inl i1, .inl x4] H = _
  refine Eq.trans (e1 hG PT_175 k175_68 _ _ _) ?_
  refine bfc ?_ ?_
  · show G 175 107 [some (.inr (.inr x0)), some (.inl x1), some (.inl x2), some (.inl x3), some (.inl x4)] [] H = _
    refine Eq.trans (e1 hG PT_175 k175_107 _ _ _) ?_
    show G 175 108 [some (.inr (.inr x0)), some (.inl x1), some (.inl x2), some (.inl x3), some (.inl x4)] [.inl x3] H = _
    exact e1 hG PT_175 k175_108 _ _ _
  · show G 175 71 [some (.inr (.inr x0)), some (.inl x1), some (.inl x2), some (.inl x3), some (.inl x4)] [] H = _
    refine Eq.trans (e1 hG PT_175 k175_71 _ _ _) ?_
    show G 175 72 [some (.inr (.inr x0)), some (.inl x1), some (.inl x2), some (.inl x3), some (.inl x4)] [.inl x3] H = _
    refine Eq.trans (e1 hG PT_175 k175_72 _ _ _) ?_
    show G 175 73 [some (.inr (.inr x0)), some (.inl x1), some (.inl x2), some (.inl x3), some (.inl x4)] [.inr (.inr x0), .inl x3] H = _
    refine Eq.trans (e1 hG PT_175 k175_73 _ _ _) ?_
    refine bdc fun r2 => ?_
    show G 175 76 [some (.inr (.inr x0)), some (.inl x1), some (.inl x2), some (.inl x3), some (.inl x4)] [.inr (.inr r2), .inl x3] H = _
    refine Eq.trans (e1 hG PT_175 k175_76 _ _ _) ?_
    show G 175 78 [some (.inr (.inr x0)), some (.inl x1), some (.inl x2), some (.inl x3), some (.inl x4)] [.inl 12, .inr (.inr r2), .inl x3] H = _
    refine Eq.trans (e1 hG PT_175 k175_78 _ _ _) ?_
    show G 175 79 [some (.inr (.inr x0)), some (.inl x1), some (.inl x2), some (.inl x3), some (.inl x4)] [.inl x1, .inl 12, .inr (.inr r2), .inl x3] H = _
    refine Eq.trans (e1 hG PT_175 k175_79 _ _ _) ?_
    show G 175 80 [some (.inr (.inr x0)), some (.inl x1), some (.inl x2), some (.inl x3), some (.inl x4)] [.inl (12 * x1), .inr (.inr r2), .inl x3] H = _
    refine Eq.trans (e1 hG PT_175 k175_80 _ _ _) ?_
    show G 175 82 [some (.inr (.inr x0)), some (.inl x1), some (.inl x2), some (.inl x3), some (.inl x4)] [.inl 6, .inl (12 * x1), .inr (.inr r2), .inl x3] H = _
    refine Eq.trans (e1 hG PT_175 k175_82 _ _ _) ?_
    show G 175 83 [some (.inr (.inr x0)), some (.inl x1), some (.inl x2), some (.inl x3), some (.inl x4)] [.inl x2, .inl 6, .inl (12 * x1), .inr (.inr r2), .inl x3] H = _
    refine Eq.trans (e1 hG PT_175 k175_83 _ _ _) ?_
    show G 175 84 [some (.inr (.inr x0)), some (.inl x1), some (.inl x2), some (.inl x3), some (.inl x4)] [.inl (6 * x2), .inl (12 * x1), .inr (.inr r2), .inl x3] H = _
    refine Eq.trans (e1 hG PT_175 k175_84 _ _ _) ?_
    show G 175 85 [some (.inr (.inr x0)), some (.inl x1), some (.inl x2), some (.inl x3), some (.inl x4)] [.inl ((12 * x1) + (6 * x2)), .inr (.inr r2), .inl x3] H = _
    refine Eq.trans (e1 hG PT_175 k175_85 _ _ _) ?_
    show G 175 86 [some (.inr (.inr x0)), some (.inl x1), some (.inl x2), some (.inl x3), some (.inl x4)] [.inl 3, .inl ((12 * x1) + (6 * x2)), .inr (.inr r2), .inl x3] H = _
    refine Eq.trans (e1 hG PT_175 k175_86 _ _ _) ?_
    show G 175 87 [some (.inr (.inr x0)), some (.inl x1), some (.inl x2), some (.inl x3), some (.inl x4)] [.inl (((12 * x1) + (6 * x2)) + 3), .inr (.inr r2), .inl x3] H = _
    refine Eq.trans (e1 hG PT_175 k175_87 _ _ _) ?_
    show G 175 89 [some (.inr (.inr x0)), some (.inl x1), some (.inl x2), some (.inl x3), some (.inl x4)] [.inl x4, .inl (((12 * x1) + (6 * x2)) + 3), .inr (.inr r2), .inl x3] H = _
    refine Eq.trans (e1 hG PT_175 k175_89 _ _ _) ?_
    show G 175 90 [some (.inr (.inr x0)), some (.inl x1), some (.inl x2), some (.inl x3), some (.inl x4)] [.inl ((((12 * x1) + (6 * x2)) + 3) + x4), .inr (.inr r2), .inl x3] H = _
    refine Eq.trans (e1 hG PT_175 k175_90 _ _ _) ?_
    refine bdc fun i3 => ?_
    show G 175 91 [some (.inr (.inr x0)), some (.inl x1), some (.inl x2), some (.inl x3), some (.inl x4)] [.inl i3, .inl x3] H = _
    refine Eq.trans (e1 hG PT_175 k175_91 _ _ _) ?_
    show G 175 92 [some (.inr (.inr x0)), some (.inl x1), some (.inl x2), some (.inl x3), some (.inl x4)] [.inr (.inr x0), .inl i3, .inl x3] H = _
    refine Eq.trans (e1 hG PT_175 k175_92 _ _ _) ?_
    refine bdc fun r4 => ?_
    show G 175 95 [some (.inr (.inr x0)), some (.inl x1), some (.inl x2), some (.inl x3), some (.inl x4)] [.inr (.inr r4), .inl i3, .inl x3] H = _
    refine Eq.trans (e1 hG PT_175 k175_95 _ _ _) ?_
    show G 175 97 [some (.inr (.inr x0)), some (.inl x1), some (.inl x2), some (.inl x3), some (.inl x4)] [.inl x4, .inr (.inr r4), .inl i3, .inl x3] H = _
    refine Eq.trans (e1 hG PT_175 k175_97 _ _ _) ?_
    refine bdc fun i5 => ?_
    show G 175 98 [some (.inr (.inr x0)), some (.inl x1), some (.inl x2), some (.inl x3), some (.inl x4)] [.inl i5, .inl i3, .inl x3] H = _
    refine Eq.trans (e1 hG PT_175 k175_98 _ _ _) ?_
    show G 175 99 [some (.inr (.inr x0)), some (.inl x1), some (.inl x2), some (.inl x3), some (.inl x4)] [.inl (i3 * i5), .inl x3] H = _
    refine Eq.trans (e1 hG PT_175 k175_99 _ _ _) ?_
    show G 175 100 [some (.inr (.inr x0)), some (.inl x1), some (.inl x2), some (.inl x3), some (.inl x4)] [.inl (x3 + (i3 * i5))] H = _
    refine Eq.trans (e1 hG PT_175 k175_100 _ _ _) ?_
    show G 175 101 [some (.inr (.inr x0)), some (.inl x1), some (.inl x2), some (.inl (x3 + (i3 * i5))), some (.inl x4)] [] H = _
    refine Eq.trans (e1 hG PT_175 k175_101 _ _ _) ?_
    show G 175 104 [some (.inr (.inr x0)), some (.inl x1), some (.inl x2), some (.inl (x3 + (i3 * i5))), some (.inl (x4 + 1))] [] H = _
    refine Eq.trans (e1 hG PT_175 k175_104 _ _ _) ?_
    rfl
-- StepsAheadModel.closing(II)I
theorem PT_176 : PT 176 = pt176 := rfl
theorem k176_0 : lkp pt176 0 = iP 1 (fK (.inl 0)) := rfl
theorem k176_1 : lkp pt176 1 = iP 2 (fIst 3) := rfl
theorem k176_2 : lkp pt176 2 = iP 3 (fIld 1) := rfl
theorem k176_3 : lkp pt176 3 = iP 4 (fK (.inl 1)) := rfl
theorem k176_4 : lkp pt176 4 = iP 5 (f2I (fun x y => x + y)) := rfl
theorem k176_5 : lkp pt176 5 = iP 7 (fIst 4) := rfl
theorem k176_7 : lkp pt176 7 = iP 8 (fIld 3) := rfl
theorem k176_8 : lkp pt176 8 = iB 11 22 (b1 (fun x => decide (0 < x))) := rfl
theorem k176_11 : lkp pt176 11 = iP 12 (fAld 0) := rfl
theorem k176_12 : lkp pt176 12 = iRR 15 (gtR 52) := rfl
theorem k176_15 : lkp pt176 15 = iP 17 (fIld 4) := rfl
theorem k176_17 : lkp pt176 17 = iRI 18 qAI := rfl
theorem k176_18 : lkp pt176 18 = iP 19 (fIld 2) := rfl
theorem k176_19 : lkp pt176 19 = iB 22 86 (b2 (fun x y => decide (x = y))) := rfl
theorem k176_22 : lkp pt176 22 = iP 23 (fIld 3) := rfl
theorem k176_23 : lkp pt176 23 = iP 24 (fAld 0) := rfl
theorem k176_24 : lkp pt176 24 = iRR 27 (gtR 52) := rfl
theorem k176_27 : lkp pt176 27 = iP 29 (fIld 4) := rfl
theorem k176_29 : lkp pt176 29 = iRI 30 qAI := rfl
theorem k176_30 : lkp pt176 30 = iP 31 (fK (.inl 3)) := rfl
theorem k176_31 : lkp pt176 31 = iB 34 45 (b2 (fun x y => decide (x = y))) := rfl
theorem k176_34 : lkp pt176 34 = iP 35 (fAld 0) := rfl
theorem k176_35 : lkp pt176 35 = iRR 38 (gtR 52) := rfl
theorem k176_38 : lkp pt176 38 = iP 40 (fIld 4) := rfl
theorem k176_40 : lkp pt176 40 = iRI 41 qAI := rfl
theorem k176_41 : lkp pt176 41 = iP 42 (fK (.inl 5)) := rfl
theorem k176_42 : lkp pt176 42 = iB 45 49 (b2 (fun x y => decide (x ≠ y))) := rfl
theorem k176_45 : lkp pt176 45 = iP 46 (fK (.inl 1)) := rfl
theorem k176_46 : lkp pt176 46 = iP 78 fGo := rfl
theorem k176_49 : lkp pt176 49 = iP 50 (fAld 0) := rfl
theorem k176_50 : lkp pt176 50 = iRR 53 (gtR 52) := rfl
theorem k176_53 : lkp pt176 53 = iP 55 (fIld 4) := rfl
theorem k176_55 : lkp pt176 55 = iRI 56 qAI := rfl
theorem k176_56 : lkp pt176 56 = iP 58 (fK (.inl 6)) := rfl
theorem k176_58 : lkp pt176 58 = iB 61 73 (b2 (fun x y => decide (x = y))) := rfl
theorem k176_61 : lkp pt176 61 = iP 62 (fAld 0) := rfl
theorem k176_62 : lkp pt176 62 = iRR 65 (gtR 52) := rfl
theorem k176_65 : lkp pt176 65 = iP 67 (fIld 4) := rfl
theorem k176_67 : lkp pt176 67 = iRI 68 qAI := rfl
theorem k176_68 : lkp pt176 68 = iP 70 (fK (.inl 8)) := rfl
theorem k176_70 : lkp pt176 70 = iB 73 77 (b2 (fun x y => decide (x ≠ y))) := rfl
theorem k176_73 : lkp pt176 73 = iP 74 (fK (.inl (-1))) := rfl
theorem k176_74 : lkp pt176 74 = iP 78 fGo := rfl
theorem k176_77 : lkp pt176 77 = iP 78 (fK (.inl 0)) := rfl
theorem k176_78 : lkp pt176 78 = iP 79 (f2I (fun x y => x + y)) := rfl
theorem k176_79 : lkp pt176 79 = iP 80 (fIst 3) := rfl
theorem k176_80 : lkp pt176 80 = iP 83 (fInc 4 1) := rfl
theorem k176_83 : lkp pt176 83 = iP 7 fGo := rfl
theorem k176_86 : lkp pt176 86 = iP 88 (fIld 4) := rfl
theorem k176_88 : lkp pt176 88 = iRet rI := rfl
theorem b176_0 {G : AG} (hG : FIX G) (x0 : Nat) (x1 : Int32) (x2 : Int32) (H : Hp) : G 176 0 [some (.inr (.inr x0)), some (.inl x1), some (.inl x2), none, none] [] H = (G 176 7 [some (.inr (.inr x0)), some (.inl x1), some (.inl x2), some (.inl 0), some (.inl (x1 + 1))] [] H) := by
  refine Eq.trans (e1 hG PT_176 k176_0 _ _ _) ?_
  show G 176 1 [some (.inr (.inr x0)), some (.inl x1), some (.inl x2), none, none] [.inl 0] H = _
  refine Eq.trans (e1 hG PT_176 k176_1 _ _ _) ?_
  show G 176 2 [some (.inr (.inr x0)), some (.inl x1), some (.inl x2), some (.inl 0), none] [] H = _
  refine Eq.trans (e1 hG PT_176 k176_2 _ _ _) ?_
  show G 176 3 [some (.inr (.inr x0)), some (.inl x1), some (.inl x2), some (.inl 0), none] [.inl x1] H = _
  refine Eq.trans (e1 hG PT_176 k176_3 _ _ _) ?_
  show G 176 4 [some (.inr (.inr x0)), some (.inl x1), some (.inl x2), some (.inl 0), none] [.inl 1, .inl x1] H = _
  refine Eq.trans (e1 hG PT_176 k176_4 _ _ _) ?_
  show G 176 5 [some (.inr (.inr x0)), some (.inl x1), some (.inl x2), some (.inl 0), none] [.inl (x1 + 1)] H = _
  refine Eq.trans (e1 hG PT_176 k176_5 _ _ _) ?_
  rfl
theorem b176_7 {G : AG} (hG : FIX G) (x0 : Nat) (x1 : Int32) (x2 : Int32) (x3 : Int32) (x4 : Int32) (H : Hp) : G 176 7 [some (.inr (.inr x0)), some (.inl x1), some (.inl x2), some (.inl x3), some (.inl x4)] [] H = (bif decide (0 < (x3 : Int32)) then G 176 22 [some (.inr (.inr x0)), some (.inl x1), some (.inl x2), some (.inl x3), some (.inl x4)] [] H else (hgR H x0 52).bind fun r1 => (hAI H r1 x4).bind fun i2 => bif decide ((i2 : Int32) = (x2 : Int32)) then some (some (.inl x4), H) else G 176 22 [some (.inr (.inr x0)), some (.inl x1), some (.inl x2), some (.inl x3), some (.inl x4)] [] H) := by
  refine Eq.trans (e1 hG PT_176 k176_7 _ _ _) ?_
  show G 176 8 [some (.inr (.inr x0)), some (.inl x1), some (.inl x2), some (.inl x3), some (.inl x4)] [.inl x3] H = _
  refine Eq.trans (e1 hG PT_176 k176_8 _ _ _) ?_
  refine bfc ?_ ?_
  · rfl
  · show G 176 11 [some (.inr (.inr x0)), some (.inl x1), some (.inl x2), some (.inl x3), some (.inl x4)] [] H = _
    refine Eq.trans (e1 hG PT_176 k176_11 _ _ _) ?_
    show G 176 12 [some (.inr (.inr x0)), some (.inl x1), some (.inl x2), some (.inl x3), some (.inl x4)] [.inr (.inr x0)] H = _
    refine Eq.trans (e1 hG PT_176 k176_12 _ _ _) ?_
    refine bdc fun r1 => ?_
    show G 176 15 [some (.inr (.inr x0)), some (.inl x1), some (.inl x2), some (.inl x3), some (.inl x4)] [.inr (.inr r1)] H = _
    refine Eq.trans (e1 hG PT_176 k176_15 _ _ _) ?_
    show G 176 17 [some (.inr (.inr x0)), some (.inl x1), some (.inl x2), some (.inl x3), some (.inl x4)] [.inl x4, .inr (.inr r1)] H = _
    refine Eq.trans (e1 hG PT_176 k176_17 _ _ _) ?_
    refine bdc fun i2 => ?_
    show G 176 18 [some (.inr (.inr x0)), some (.inl x1), some (.inl x2), some (.inl x3), some (.inl x4)] [.inl i2] H = _
    refine Eq.trans (e1 hG PT_176 k176_18 _ _ _) ?_
    show G 176 19 [some (.inr (.inr x0)), some (.inl x1), some (.inl x2), some (.inl x3), some (.inl x4)] [.inl x2, .inl i2] H = _
    refine Eq.trans (e1 hG PT_176 k176_19 _ _ _) ?_
    refine bfc ?_ ?_
    · show G 176 86 [some (.inr (.inr x0)), some (.inl x1), some (.inl x2), some (.inl x3), some (.inl x4)] [] H = _
      refine Eq.trans (e1 hG PT_176 k176_86 _ _ _) ?_
      show G 176 88 [some (.inr (.inr x0)), some (.inl x1), some (.inl x2), some (.inl x3), some (.inl x4)] [.inl x4] H = _
      exact e1 hG PT_176 k176_88 _ _ _
    · rfl
theorem b176_22 {G : AG} (hG : FIX G) (x0 : Nat) (x1 : Int32) (x2 : Int32) (x3 : Int32) (x4 : Int32) (H : Hp) : G 176 22 [some (.inr (.inr x0)), some (.inl x1), some (.inl x2), some (.inl x3), some (.inl x4)] [] H = ((hgR H x0 52).bind fun r1 => (hAI H r1 x4).bind fun i2 => bif decide ((i2 : Int32) = (3 : Int32)) then G 176 45 [some (.inr (.inr x0)), some (.inl x1), some (.inl x2), some (.inl x3), some (.inl x4)] [.inl x3] H else (hgR H x0 52).bind fun r3 => (hAI H r3 x4).bind fun i4 => bif decide ((i4 : Int32) ≠ (5 : Int32)) then (hgR H x0 52).bind fun r5 => (hAI H r5 x4).bind fun i6 => bif decide ((i6 : Int32) = (6 : Int32)) then G 176 73 [some (.inr (.inr x0)), some (.inl x1), some (.inl x2), some (.inl x3), some (.inl x4)] [.inl x3] H else (hgR H x0 52).bind fun r7 => (hAI H r7 x4).bind fun i8 => bif decide ((i8 : Int32) ≠ (8 : Int32)) then G 176 78 [some (.inr (.inr x0)), some (.inl x1), some (.inl x2), some (.inl x3), some (.inl x4)] [.inl 0, .inl x3] H else G 176 73 [some (.inr (.inr x0)), some (.inl x1), some (.inl x2), some (.inl x3), some (.inl x4)] [.inl x3] H else G 176 45 [some (.inr (.inr x0)), some (.inl x1), some (.inl x2), some (.inl x3), some (.inl x4)] [.inl x3] H) := by
  refine Eq.trans (e1 hG PT_176 k176_22 _ _ _) ?_
  show G 176 23 [some (.inr (.inr x0)), some (.inl x1), some (.inl x2), some (.inl x3), some (.inl x4)] [.inl x3] H = _
  refine Eq.trans (e1 hG PT_176 k176_23 _ _ _) ?_
  show G 176 24 [some (.inr (.inr x0)), some (.inl x1), some (.inl x2), some (.inl x3), some (.inl x4)] [.inr (.inr x0), .inl x3] H = _
  refine Eq.trans (e1 hG PT_176 k176_24 _ _ _) ?_
  refine bdc fun r1 => ?_
  show G 176 27 [some (.inr (.inr x0)), some (.inl x1), some (.inl x2), some (.inl x3), some (.inl x4)] [.inr (.inr r1), .inl x3] H = _
  refine Eq.trans (e1 hG PT_176 k176_27 _ _ _) ?_
  show G 176 29 [some (.inr (.inr x0)), some (.inl x1), some (.inl x2), some (.inl x3), some (.inl x4)] [.inl x4, .inr (.inr r1), .inl x3] H = _
  refine Eq.trans (e1 hG PT_176 k176_29 _ _ _) ?_
  refine bdc fun i2 => ?_
  show G 176 30 [some (.inr (.inr x0)), some (.inl x1), some (.inl x2), some (.inl x3), some (.inl x4)] [.inl i2, .inl x3] H = _
  refine Eq.trans (e1 hG PT_176 k176_30 _ _ _) ?_
  show G 176 31 [some (.inr (.inr x0)), some (.inl x1), some (.inl x2), some (.inl x3), some (.inl x4)] [.inl 3, .inl i2, .inl x3] H = _
  refine Eq.trans (e1 hG PT_176 k176_31 _ _ _) ?_
  refine bfc ?_ ?_
  · rfl
  · show G 176 34 [some (.inr (.inr x0)), some (.inl x1), some (.inl x2), some (.inl x3), some (.inl x4)] [.inl x3] H = _
    refine Eq.trans (e1 hG PT_176 k176_34 _ _ _) ?_
    show G 176 35 [some (.inr (.inr x0)), some (.inl x1), some (.inl x2), some (.inl x3), some (.inl x4)] [.inr (.inr x0), .inl x3] H = _
    refine Eq.trans (e1 hG PT_176 k176_35 _ _ _) ?_
    refine bdc fun r3 => ?_
    show G 176 38 [some (.inr (.inr x0)), some (.inl x1), some (.inl x2), some (.inl x3), some (.inl x4)] [.inr (.inr r3), .inl x3] H = _
    refine Eq.trans (e1 hG PT_176 k176_38 _ _ _) ?_
    show G 176 40 [some (.inr (.inr x0)), some (.inl x1), some (.inl x2), some (.inl x3), some (.inl x4)] [.inl x4, .inr (.inr r3), .inl x3] H = _
    refine Eq.trans (e1 hG PT_176 k176_40 _ _ _) ?_
    refine bdc fun i4 => ?_
    show G 176 41 [some (.inr (.inr x0)), some (.inl x1), some (.inl x2), some (.inl x3), some (.inl x4)] [.inl i4, .inl x3] H = _
    refine Eq.trans (e1 hG PT_176 k176_41 _ _ _) ?_
    show G 176 42 [some (.inr (.inr x0)), some (.inl x1), some (.inl x2), some (.inl x3), some (.inl x4)] [.inl 5, .inl i4, .inl x3] H = _
    refine Eq.trans (e1 hG PT_176 k176_42 _ _ _) ?_
    refine bfc ?_ ?_
    · show G 176 49 [some (.inr (.inr x0)), some (.inl x1), some (.inl x2), some (.inl x3), some (.inl x4)] [.inl x3] H = _
      refine Eq.trans (e1 hG PT_176 k176_49 _ _ _) ?_
      show G 176 50 [some (.inr (.inr x0)), some (.inl x1), some (.inl x2), some (.inl x3), some (.inl x4)] [.inr (.inr x0), .inl x3] H = _
      refine Eq.trans (e1 hG PT_176 k176_50 _ _ _) ?_
      refine bdc fun r5 => ?_
      show G 176 53 [some (.inr (.inr x0)), some (.inl x1), some (.inl x2), some (.inl x3), some (.inl x4)] [.inr (.inr r5), .inl x3] H = _
      refine Eq.trans (e1 hG PT_176 k176_53 _ _ _) ?_
      show G 176 55 [some (.inr (.inr x0)), some (.inl x1), some (.inl x2), some (.inl x3), some (.inl x4)] [.inl x4, .inr (.inr r5), .inl x3] H = _
      refine Eq.trans (e1 hG PT_176 k176_55 _ _ _) ?_
      refine bdc fun i6 => ?_
      show G 176 56 [some (.inr (.inr x0)), some (.inl x1), some (.inl x2), some (.inl x3), some (.inl x4)] [.inl i6, .inl x3] H = _
      refine Eq.trans (e1 hG PT_176 k176_56 _ _ _) ?_
      show G 176 58 [some (.inr (.inr x0)), some (.inl x1), some (.inl x2), some (.inl x3), some (.inl x4)] [.inl 6, .inl i6, .inl x3] H = _
      refine Eq.trans (e1 hG PT_176 k176_58 _ _ _) ?_
      refine bfc ?_ ?_
      · rfl
      · show G 176 61 [some (.inr (.inr x0)), some (.inl x1), some (.inl x2), some (.inl x3), some (.inl x4)] [.inl x3] H = _
        refine Eq.trans (e1 hG PT_176 k176_61 _ _ _) ?_
        show G 176 62 [some (.inr (.inr x0)), some (.inl x1), some (.inl x2), some (.inl x3), some (.inl x4)] [.inr (.inr x0), .inl x3] H = _
        refine Eq.trans (e1 hG PT_176 k176_62 _ _ _) ?_
        refine bdc fun r7 => ?_
        show G 176 65 [some (.inr (.inr x0)), some (.inl x1), some (.inl x2), some (.inl x3), some (.inl x4)] [.inr (.inr r7), .inl x3] H = _
        refine Eq.trans (e1 hG PT_176 k176_65 _ _ _) ?_
        show G 176 67 [some (.inr (.inr x0)), some (.inl x1), some (.inl x2), some (.inl x3), some (.inl x4)] [.inl x4, .inr (.inr r7), .inl x3] H = _
        refine Eq.trans (e1 hG PT_176 k176_67 _ _ _) ?_
        refine bdc fun i8 => ?_
        show G 176 68 [some (.inr (.inr x0)), some (.inl x1), some (.inl x2), some (.inl x3), some (.inl x4)] [.inl i8, .inl x3] H = _
        refine Eq.trans (e1 hG PT_176 k176_68 _ _ _) ?_
        show G 176 70 [some (.inr (.inr x0)), some (.inl x1), some (.inl x2), some (.inl x3), some (.inl x4)] [.inl 8, .inl i8, .inl x3] H = _
        refine Eq.trans (e1 hG PT_176 k176_70 _ _ _) ?_
        refine bfc ?_ ?_
        · show G 176 77 [some (.inr (.inr x0)), some (.inl x1), some (.inl x2), some (.inl x3), some (.inl x4)] [.inl x3] H = _
          refine Eq.trans (e1 hG PT_176 k176_77 _ _ _) ?_
          rfl
        · rfl
    · rfl
theorem b176_45 {G : AG} (hG : FIX G) (x0 : Nat) (x1 : Int32) (x2 : Int32) (x3 : Int32) (x4 : Int32) (s0 : Int32) (H : Hp) : G 176 45 [some (.inr (.inr x0)), some (.inl x1), some (.inl x2), some (.inl x3), some (.inl x4)] [.inl s0] H = (G 176 78 [some (.inr (.inr x0)), some (.inl x1), some (.inl x2), some (.inl x3), some (.inl x4)] [.inl 1, .inl s0] H) := by
  refine Eq.trans (e1 hG PT_176 k176_45 _ _ _) ?_
  show G 176 46 [some (.inr (.inr x0)), some (.inl x1), some (.inl x2), some (.inl x3), some (.inl x4)] [.inl 1, .inl s0] H = _
  refine Eq.trans (e1 hG PT_176 k176_46 _ _ _) ?_
  rfl
theorem b176_73 {G : AG} (hG : FIX G) (x0 : Nat) (x1 : Int32) (x2 : Int32) (x3 : Int32) (x4 : Int32) (s0 : Int32) (H : Hp) : G 176 73 [some (.inr (.inr x0)), some (.inl x1), some (.inl x2), some (.inl x3), some (.inl x4)] [.inl s0] H = (G 176 78 [some (.inr (.inr x0)), some (.inl x1), some (.inl x2), some (.inl x3), some (.inl x4)] [.inl (-1), .inl s0] H) := by
  refine Eq.trans (e1 hG PT_176 k176_73 _ _ _) ?_
  show G 176 74 [some (.inr (.inr x0)), some (.inl x1), some (.inl x2), some (.inl x3), some (.inl x4)] [.inl (-1), .inl s0] H = _
  refine Eq.trans (e1 hG PT_176 k176_74 _ _ _) ?_
  rfl
theorem b176_78 {G : AG} (hG : FIX G) (x0 : Nat) (x1 : Int32) (x2 : Int32) (x3 : Int32) (x4 : Int32) (s0 : Int32) (s1 : Int32) (H : Hp) : G 176 78 [some (.inr (.inr x0)), some (.inl x1), some (.inl x2), some (.inl x3), some (.inl x4)] [.inl s0, .inl s1] H = (G 176 7 [some (.inr (.inr x0)), some (.inl x1), some (.inl x2), some (.inl (s1 + s0)), some (.inl (x4 + 1))] [] H) := by
  refine Eq.trans (e1 hG PT_176 k176_78 _ _ _) ?_
  show G 176 79 [some (.inr (.inr x0)), some (.inl x1), some (.inl x2), some (.inl x3), some (.inl x4)] [.inl (s1 + s0)] H = _
  refine Eq.trans (e1 hG PT_176 k176_79 _ _ _) ?_
  show G 176 80 [some (.inr (.inr x0)), some (.inl x1), some (.inl x2), some (.inl (s1 + s0)), some (.inl x4)] [] H = _
  refine Eq.trans (e1 hG PT_176 k176_80 _ _ _) ?_
  show G 176 83 [some (.inr (.inr x0)), some (.inl x1), some (.inl x2), some (.inl (s1 + s0)), some (.inl (x4 + 1))] [] H = _
  refine Eq.trans (e1 hG PT_176 k176_83 _ _ _) ?_
  rfl
-- StepsAheadModel.mayLook()Z
theorem PT_177 : PT 177 = pt177 := rfl
theorem k177_0 : lkp pt177 0 = iP 1 (fAld 0) := rfl
theorem k177_1 : lkp pt177 1 = iP 2 fDup := rfl
theorem k177_2 : lkp pt177 2 = iRI 5 (gtI 76) := rfl
theorem k177_5 : lkp pt177 5 = iP 6 (fK (.inl 1)) := rfl
theorem k177_6 : lkp pt177 6 = iP 7 (f2I (fun x y => x + y)) := rfl
theorem k177_7 : lkp pt177 7 = iW 10 (ptI 76) := rfl
theorem k177_10 : lkp pt177 10 = iP 11 (fAld 0) := rfl
theorem k177_11 : lkp pt177 11 = iRI 14 (gtI 76) := rfl
theorem k177_14 : lkp pt177 14 = iP 17 (fK (.inl 20000)) := rfl
theorem k177_17 : lkp pt177 17 = iB 20 24 (b2 (fun x y => decide (y < x))) := rfl
theorem k177_20 : lkp pt177 20 = iP 21 (fK (.inl 1)) := rfl
theorem k177_21 : lkp pt177 21 = iP 25 fGo := rfl
theorem k177_24 : lkp pt177 24 = iP 25 (fK (.inl 0)) := rfl
theorem k177_25 : lkp pt177 25 = iRet rZ := rfl
theorem b177_0 {G : AG} (hG : FIX G) (x0 : Nat) (H : Hp) : G 177 0 [some (.inr (.inr x0))] [] H = ((hgI H x0 76).bind fun i1 => (hpI H x0 76 ((i1 + 1))).bind fun H2 => (hgI H2 x0 76).bind fun i3 => bif decide ((20000 : Int32) < (i3 : Int32)) then G 177 25 [some (.inr (.inr x0))] [.inl 0] H2 else G 177 25 [some (.inr (.inr x0))] [.inl 1] H2) := by
  refine Eq.trans (e1 hG PT_177 k177_0 _ _ _) ?_
  show G 177 1 [some (.inr (.inr x0))] [.inr (.inr x0)] H = _
  refine Eq.trans (e1 hG PT_177 k177_1 _ _ _) ?_
  show G 177 2 [some (.inr (.inr x0))] [.inr (.inr x0), .inr (.inr x0)] H = _
  refine Eq.trans (e1 hG PT_177 k177_2 _ _ _) ?_
  refine bdc fun i1 => ?_
  show G 177 5 [some (.inr (.inr x0))] [.inl i1, .inr (.inr x0)] H = _
  refine Eq.trans (e1 hG PT_177 k177_5 _ _ _) ?_
  show G 177 6 [some (.inr (.inr x0))] [.inl 1, .inl i1, .inr (.inr x0)] H = _
  refine Eq.trans (e1 hG PT_177 k177_6 _ _ _) ?_
  show G 177 7 [some (.inr (.inr x0))] [.inl (i1 + 1), .inr (.inr x0)] H = _
  refine Eq.trans (e1 hG PT_177 k177_7 _ _ _) ?_
  refine bdc fun H2 => ?_
  show G 177 10 [some (.inr (.inr x0))] [] H2 = _
  refine Eq.trans (e1 hG PT_177 k177_10 _ _ _) ?_
  show G 177 11 [some (.inr (.inr x0))] [.inr (.inr x0)] H2 = _
  refine Eq.trans (e1 hG PT_177 k177_11 _ _ _) ?_
  refine bdc fun i3 => ?_
  show G 177 14 [some (.inr (.inr x0))] [.inl i3] H2 = _
  refine Eq.trans (e1 hG PT_177 k177_14 _ _ _) ?_
  show G 177 17 [some (.inr (.inr x0))] [.inl 20000, .inl i3] H2 = _
  refine Eq.trans (e1 hG PT_177 k177_17 _ _ _) ?_
  refine bfc ?_ ?_
  · show G 177 24 [some (.inr (.inr x0))] [] H2 = _
    refine Eq.trans (e1 hG PT_177 k177_24 _ _ _) ?_
    rfl
  · show G 177 20 [some (.inr (.inr x0))] [] H2 = _
    refine Eq.trans (e1 hG PT_177 k177_20 _ _ _) ?_
    show G 177 21 [some (.inr (.inr x0))] [.inl 1] H2 = _
    refine Eq.trans (e1 hG PT_177 k177_21 _ _ _) ?_
    rfl
theorem b177_25 {G : AG} (hG : FIX G) (x0 : Nat) (s0 : Int32) (H : Hp) : G 177 25 [some (.inr (.inr x0))] [.inl s0] H = (retZ s0 H) := by
  exact e1 hG PT_177 k177_25 _ _ _
-- StepsAheadModel.lot(I)I
theorem PT_178 : PT 178 = pt178 := rfl
theorem k178_0 : lkp pt178 0 = iP 1 (fAld 0) := rfl
theorem k178_1 : lkp pt178 1 = iP 2 (fIld 1) := rfl
theorem k178_2 : lkp pt178 2 = iW 5 (ptI 57) := rfl
theorem k178_5 : lkp pt178 5 = iP 6 (fK (.inl 1)) := rfl
theorem k178_6 : lkp pt178 6 = iRet rI := rfl
theorem b178_0 {G : AG} (hG : FIX G) (x0 : Nat) (x1 : Int32) (H : Hp) : G 178 0 [some (.inr (.inr x0)), some (.inl x1)] [] H = ((hpI H x0 57 x1).bind fun H1 => some (some (.inl 1), H1)) := by
  refine Eq.trans (e1 hG PT_178 k178_0 _ _ _) ?_
  show G 178 1 [some (.inr (.inr x0)), some (.inl x1)] [.inr (.inr x0)] H = _
  refine Eq.trans (e1 hG PT_178 k178_1 _ _ _) ?_
  show G 178 2 [some (.inr (.inr x0)), some (.inl x1)] [.inl x1, .inr (.inr x0)] H = _
  refine Eq.trans (e1 hG PT_178 k178_2 _ _ _) ?_
  refine bdc fun H1 => ?_
  show G 178 5 [some (.inr (.inr x0)), some (.inl x1)] [] H1 = _
  refine Eq.trans (e1 hG PT_178 k178_5 _ _ _) ?_
  show G 178 6 [some (.inr (.inr x0)), some (.inl x1)] [.inl 1] H1 = _
  exact e1 hG PT_178 k178_6 _ _ _
-- StepsAheadModel.allowed(IIII)I
theorem PT_179 : PT 179 = pt179 := rfl
theorem k179_0 : lkp pt179 0 = iP 1 (fAld 0) := rfl
theorem k179_1 : lkp pt179 1 = iP 2 (fIld 1) := rfl
theorem k179_2 : lkp pt179 2 = iCK 5 12 132 2 2 1 := rfl
theorem k179_5 : lkp pt179 5 = iB 8 21 (b1 (fun x => decide (x = 0))) := rfl
theorem k179_8 : lkp pt179 8 = iP 9 (fIld 2) := rfl
theorem k179_9 : lkp pt179 9 = iP 10 (fIld 3) := rfl
theorem k179_10 : lkp pt179 10 = iC 13 169 2 2 1 := rfl
theorem k179_13 : lkp pt179 13 = iB 16 21 (b1 (fun x => decide (x = 0))) := rfl
theorem k179_16 : lkp pt179 16 = iP 18 (fIld 4) := rfl
theorem k179_18 : lkp pt179 18 = iB 21 24 (b1 (fun x => decide (0 ≤ x))) := rfl
theorem k179_21 : lkp pt179 21 = iP 23 (fK (.inl (-1000001))) := rfl
theorem k179_23 : lkp pt179 23 = iRet rI := rfl
theorem k179_24 : lkp pt179 24 = iP 25 (fAld 0) := rfl
theorem k179_25 : lkp pt179 25 = iP 26 (fIld 1) := rfl
theorem k179_26 : lkp pt179 26 = iP 27 (fK (.inl 1)) := rfl
theorem k179_27 : lkp pt179 27 = iCK 30 12 152 3 3 1 := rfl
theorem k179_30 : lkp pt179 30 = iP 32 (fIst 5) := rfl
theorem k179_32 : lkp pt179 32 = iP 34 (fIld 5) := rfl
theorem k179_34 : lkp pt179 34 = iB 37 40 (b1 (fun x => decide (x = 0))) := rfl
theorem k179_37 : lkp pt179 37 = iP 39 (fIld 5) := rfl
theorem k179_39 : lkp pt179 39 = iRet rI := rfl
theorem k179_40 : lkp pt179 40 = iP 41 (fAld 0) := rfl
theorem k179_41 : lkp pt179 41 = iP 42 (fIld 1) := rfl
theorem k179_42 : lkp pt179 42 = iP 43 (fK (.inl 1)) := rfl
theorem k179_43 : lkp pt179 43 = iP 44 (fIld 2) := rfl
theorem k179_44 : lkp pt179 44 = iP 45 (fIld 3) := rfl
theorem k179_45 : lkp pt179 45 = iCK 48 12 170 13 5 2 := rfl
theorem k179_48 : lkp pt179 48 = iP 50 (fIld 4) := rfl
theorem k179_50 : lkp pt179 50 = iP 51 fI2l := rfl
theorem k179_51 : lkp pt179 51 = iP 52 fLcmp := rfl
theorem k179_52 : lkp pt179 52 = iB 55 60 (b1 (fun x => decide (x ≤ 0))) := rfl
theorem k179_55 : lkp pt179 55 = iP 57 (fK (.inl (-1000000))) := rfl
theorem k179_57 : lkp pt179 57 = iP 68 fGo := rfl
theorem k179_60 : lkp pt179 60 = iP 61 (fAld 0) := rfl
theorem k179_61 : lkp pt179 61 = iP 62 (fIld 1) := rfl
theorem k179_62 : lkp pt179 62 = iP 63 (fIld 2) := rfl
theorem k179_63 : lkp pt179 63 = iP 64 (fIld 3) := rfl
theorem k179_64 : lkp pt179 64 = iP 65 (fK (.inl 2)) := rfl
theorem k179_65 : lkp pt179 65 = iCK 68 12 174 10 5 1 := rfl
theorem k179_68 : lkp pt179 68 = iRet rI := rfl
theorem b179_0 {G : AG} (hG : FIX G) (x0 : Nat) (x1 : Int32) (x2 : Int32) (x3 : Int32) (x4 : Int32) (H : Hp) : G 179 0 [some (.inr (.inr x0)), some (.inl x1), some (.inl x2), some (.inl x3), some (.inl x4), none] [] H = (bif Nat.beq (H.1 x0).1 12 then (G 132 0 [some (.inr (.inr x0)), some (.inl x1)] [] H).bind fun u1 => (asI u1.1).bind fun i2 => bif decide ((i2 : Int32) = 0) then G 179 21 [some (.inr (.inr x0)), some (.inl x1), some (.inl x2), some (.inl x3), some (.inl x4), none] [] u1.2 else (G 169 0 [some (.inl x2), some (.inl x3)] [] u1.2).bind fun u3 => (asI u3.1).bind fun i4 => bif decide ((i4 : Int32) = 0) then G 179 21 [some (.inr (.inr x0)), some (.inl x1), some (.inl x2), some (.inl x3), some (.inl x4), none] [] u3.2 else bif decide (0 ≤ (x4 : Int32)) then bif Nat.beq (u3.2.1 x0).1 12 then (G 152 0 [some (.inr (.inr x0)), some (.inl x1), some (.inl 1)] [] u3.2).bind fun u5 => (asI u5.1).bind fun i6 => bif decide ((i6 : Int32) = 0) then bif Nat.beq (u5.2.1 x0).1 12 then (G 170 0 [some (.inr (.inr x0)), some (.inl x1), some (.inl 1), some (.inl x2), some (.inl x3), none, none, none, none, none, none, none, none] [] u5.2).bind fun u7 => (asJ u7.1).bind fun j8 => bif decide (((lg_cmp j8 x4.toInt64) : Int32) ≤ 0) then bif Nat.beq (u7.2.1 x0).1 12 then (G 174 0 [some (.inr (.inr x0)), some (.inl x1), some (.inl x2), some (.inl x3), some (.inl 2), none, none, none, none, none] [] u7.2).bind fun u9 => (asI u9.1).bind fun i10 => G 179 68 [some (.inr (.inr x0)), some (.inl x1), some (.inl x2), some (.inl x3), some (.inl x4), some (.inl i6)] [.inl i10] u9.2 else none else G 179 68 [some (.inr (.inr x0)), some (.inl x1), some (.inl x2), some (.inl x3), some (.inl x4), some (.inl i6)] [.inl (-1000000)] u7.2 else none else some (some (.inl i6), u5.2) else none else G 179 21 [some (.inr (.inr x0)), some (.inl x1), some (.inl x2), some (.inl x3), some (.inl x4), none] [] u3.2 else none) := by
  refine Eq.trans (e1 hG PT_179 k179_0 _ _ _) ?_
  show G 179 1 [some (.inr (.inr x0)), some (.inl x1), some (.inl x2), some (.inl x3), some (.inl x4), none] [.inr (.inr x0)] H = _
  refine Eq.trans (e1 hG PT_179 k179_1 _ _ _) ?_
  show G 179 2 [some (.inr (.inr x0)), some (.inl x1), some (.inl x2), some (.inl x3), some (.inl x4), none] [.inl x1, .inr (.inr x0)] H = _
  refine Eq.trans (e1 hG PT_179 k179_2 _ _ _) ?_
  refine bfc ?_ ?_
  · refine bdc fun u1 => ?_
    refine bdc fun i2 => ?_
    show G 179 5 [some (.inr (.inr x0)), some (.inl x1), some (.inl x2), some (.inl x3), some (.inl x4), none] [.inl i2] u1.2 = _
    refine Eq.trans (e1 hG PT_179 k179_5 _ _ _) ?_
    refine bfc ?_ ?_
    · rfl
    · show G 179 8 [some (.inr (.inr x0)), some (.inl x1), some (.inl x2), some (.inl x3), some (.inl x4), none] [] u1.2 = _
      refine Eq.trans (e1 hG PT_179 k179_8 _ _ _) ?_
      show G 179 9 [some (.inr (.inr x0)), some (.inl x1), some (.inl x2), some (.inl x3), some (.inl x4), none] [.inl x2] u1.2 = _
      refine Eq.trans (e1 hG PT_179 k179_9 _ _ _) ?_
      show G 179 10 [some (.inr (.inr x0)), some (.inl x1), some (.inl x2), some (.inl x3), some (.inl x4), none] [.inl x3, .inl x2] u1.2 = _
      refine Eq.trans (e1 hG PT_179 k179_10 _ _ _) ?_
      refine bdc fun u3 => ?_
      refine bdc fun i4 => ?_
      show G 179 13 [some (.inr (.inr x0)), some (.inl x1), some (.inl x2), some (.inl x3), some (.inl x4), none] [.inl i4] u3.2 = _
      refine Eq.trans (e1 hG PT_179 k179_13 _ _ _) ?_
      refine bfc ?_ ?_
      · rfl
      · show G 179 16 [some (.inr (.inr x0)), some (.inl x1), some (.inl x2), some (.inl x3), some (.inl x4), none] [] u3.2 = _
        refine Eq.trans (e1 hG PT_179 k179_16 _ _ _) ?_
        show G 179 18 [some (.inr (.inr x0)), some (.inl x1), some (.inl x2), some (.inl x3), some (.inl x4), none] [.inl x4] u3.2 = _
        refine Eq.trans (e1 hG PT_179 k179_18 _ _ _) ?_
        refine bfc ?_ ?_
        · show G 179 24 [some (.inr (.inr x0)), some (.inl x1), some (.inl x2), some (.inl x3), some (.inl x4), none] [] u3.2 = _
          refine Eq.trans (e1 hG PT_179 k179_24 _ _ _) ?_
          show G 179 25 [some (.inr (.inr x0)), some (.inl x1), some (.inl x2), some (.inl x3), some (.inl x4), none] [.inr (.inr x0)] u3.2 = _
          refine Eq.trans (e1 hG PT_179 k179_25 _ _ _) ?_
          show G 179 26 [some (.inr (.inr x0)), some (.inl x1), some (.inl x2), some (.inl x3), some (.inl x4), none] [.inl x1, .inr (.inr x0)] u3.2 = _
          refine Eq.trans (e1 hG PT_179 k179_26 _ _ _) ?_
          show G 179 27 [some (.inr (.inr x0)), some (.inl x1), some (.inl x2), some (.inl x3), some (.inl x4), none] [.inl 1, .inl x1, .inr (.inr x0)] u3.2 = _
          refine Eq.trans (e1 hG PT_179 k179_27 _ _ _) ?_
          refine bfc ?_ ?_
          · refine bdc fun u5 => ?_
            refine bdc fun i6 => ?_
            show G 179 30 [some (.inr (.inr x0)), some (.inl x1), some (.inl x2), some (.inl x3), some (.inl x4), none] [.inl i6] u5.2 = _
            refine Eq.trans (e1 hG PT_179 k179_30 _ _ _) ?_
            show G 179 32 [some (.inr (.inr x0)), some (.inl x1), some (.inl x2), some (.inl x3), some (.inl x4), some (.inl i6)] [] u5.2 = _
            refine Eq.trans (e1 hG PT_179 k179_32 _ _ _) ?_
            show G 179 34 [some (.inr (.inr x0)), some (.inl x1), some (.inl x2), some (.inl x3), some (.inl x4), some (.inl i6)] [.inl i6] u5.2 = _
            refine Eq.trans (e1 hG PT_179 k179_34 _ _ _) ?_
            refine bfc ?_ ?_
            · show G 179 40 [some (.inr (.inr x0)), some (.inl x1), some (.inl x2), some (.inl x3), some (.inl x4), some (.inl i6)] [] u5.2 = _
              refine Eq.trans (e1 hG PT_179 k179_40 _ _ _) ?_
              show G 179 41 [some (.inr (.inr x0)), some (.inl x1), some (.inl x2), some (.inl x3), some (.inl x4), some (.inl i6)] [.inr (.inr x0)] u5.2 = _
              refine Eq.trans (e1 hG PT_179 k179_41 _ _ _) ?_
              show G 179 42 [some (.inr (.inr x0)), some (.inl x1), some (.inl x2), some (.inl x3), some (.inl x4), some (.inl i6)] [.inl x1, .inr (.inr x0)] u5.2 = _
              refine Eq.trans (e1 hG PT_179 k179_42 _ _ _) ?_
              show G 179 43 [some (.inr (.inr x0)), some (.inl x1), some (.inl x2), some (.inl x3), some (.inl x4), some (.inl i6)] [.inl 1, .inl x1, .inr (.inr x0)] u5.2 = _
              refine Eq.trans (e1 hG PT_179 k179_43 _ _ _) ?_
              show G 179 44 [some (.inr (.inr x0)), some (.inl x1), some (.inl x2), some (.inl x3), some (.inl x4), some (.inl i6)] [.inl x2, .inl 1, .inl x1, .inr (.inr x0)] u5.2 = _
              refine Eq.trans (e1 hG PT_179 k179_44 _ _ _) ?_
              show G 179 45 [some (.inr (.inr x0)), some (.inl x1), some (.inl x2), some (.inl x3), some (.inl x4), some (.inl i6)] [.inl x3, .inl x2, .inl 1, .inl x1, .inr (.inr x0)] u5.2 = _
              refine Eq.trans (e1 hG PT_179 k179_45 _ _ _) ?_
              refine bfc ?_ ?_
              · refine bdc fun u7 => ?_
                refine bdc fun j8 => ?_
                show G 179 48 [some (.inr (.inr x0)), some (.inl x1), some (.inl x2), some (.inl x3), some (.inl x4), some (.inl i6)] [.inr (.inl j8)] u7.2 = _
                refine Eq.trans (e1 hG PT_179 k179_48 _ _ _) ?_
                show G 179 50 [some (.inr (.inr x0)), some (.inl x1), some (.inl x2), some (.inl x3), some (.inl x4), some (.inl i6)] [.inl x4, .inr (.inl j8)] u7.2 = _
                refine Eq.trans (e1 hG PT_179 k179_50 _ _ _) ?_
                show G 179 51 [some (.inr (.inr x0)), some (.inl x1), some (.inl x2), some (.inl x3), some (.inl x4), some (.inl i6)] [.inr (.inl x4.toInt64), .inr (.inl j8)] u7.2 = _
                refine Eq.trans (e1 hG PT_179 k179_51 _ _ _) ?_
                show G 179 52 [some (.inr (.inr x0)), some (.inl x1), some (.inl x2), some (.inl x3), some (.inl x4), some (.inl i6)] [.inl (lg_cmp j8 x4.toInt64)] u7.2 = _
                refine Eq.trans (e1 hG PT_179 k179_52 _ _ _) ?_
                refine bfc ?_ ?_
                · show G 179 60 [some (.inr (.inr x0)), some (.inl x1), some (.inl x2), some (.inl x3), some (.inl x4), some (.inl i6)] [] u7.2 = _
                  refine Eq.trans (e1 hG PT_179 k179_60 _ _ _) ?_
                  show G 179 61 [some (.inr (.inr x0)), some (.inl x1), some (.inl x2), some (.inl x3), some (.inl x4), some (.inl i6)] [.inr (.inr x0)] u7.2 = _
                  refine Eq.trans (e1 hG PT_179 k179_61 _ _ _) ?_
                  show G 179 62 [some (.inr (.inr x0)), some (.inl x1), some (.inl x2), some (.inl x3), some (.inl x4), some (.inl i6)] [.inl x1, .inr (.inr x0)] u7.2 = _
                  refine Eq.trans (e1 hG PT_179 k179_62 _ _ _) ?_
                  show G 179 63 [some (.inr (.inr x0)), some (.inl x1), some (.inl x2), some (.inl x3), some (.inl x4), some (.inl i6)] [.inl x2, .inl x1, .inr (.inr x0)] u7.2 = _
                  refine Eq.trans (e1 hG PT_179 k179_63 _ _ _) ?_
                  show G 179 64 [some (.inr (.inr x0)), some (.inl x1), some (.inl x2), some (.inl x3), some (.inl x4), some (.inl i6)] [.inl x3, .inl x2, .inl x1, .inr (.inr x0)] u7.2 = _
                  refine Eq.trans (e1 hG PT_179 k179_64 _ _ _) ?_
                  show G 179 65 [some (.inr (.inr x0)), some (.inl x1), some (.inl x2), some (.inl x3), some (.inl x4), some (.inl i6)] [.inl 2, .inl x3, .inl x2, .inl x1, .inr (.inr x0)] u7.2 = _
                  refine Eq.trans (e1 hG PT_179 k179_65 _ _ _) ?_
                  refine bfc ?_ ?_
                  · refine bdc fun u9 => ?_
                    refine bdc fun i10 => ?_
                    rfl
                  · rfl
                · show G 179 55 [some (.inr (.inr x0)), some (.inl x1), some (.inl x2), some (.inl x3), some (.inl x4), some (.inl i6)] [] u7.2 = _
                  refine Eq.trans (e1 hG PT_179 k179_55 _ _ _) ?_
                  show G 179 57 [some (.inr (.inr x0)), some (.inl x1), some (.inl x2), some (.inl x3), some (.inl x4), some (.inl i6)] [.inl (-1000000)] u7.2 = _
                  refine Eq.trans (e1 hG PT_179 k179_57 _ _ _) ?_
                  rfl
              · rfl
            · show G 179 37 [some (.inr (.inr x0)), some (.inl x1), some (.inl x2), some (.inl x3), some (.inl x4), some (.inl i6)] [] u5.2 = _
              refine Eq.trans (e1 hG PT_179 k179_37 _ _ _) ?_
              show G 179 39 [some (.inr (.inr x0)), some (.inl x1), some (.inl x2), some (.inl x3), some (.inl x4), some (.inl i6)] [.inl i6] u5.2 = _
              exact e1 hG PT_179 k179_39 _ _ _
          · rfl
        · rfl
  · rfl
theorem b179_21 {G : AG} (hG : FIX G) (x0 : Nat) (x1 : Int32) (x2 : Int32) (x3 : Int32) (x4 : Int32) (H : Hp) : G 179 21 [some (.inr (.inr x0)), some (.inl x1), some (.inl x2), some (.inl x3), some (.inl x4), none] [] H = (some (some (.inl ((-1000001))), H)) := by
  refine Eq.trans (e1 hG PT_179 k179_21 _ _ _) ?_
  show G 179 23 [some (.inr (.inr x0)), some (.inl x1), some (.inl x2), some (.inl x3), some (.inl x4), none] [.inl (-1000001)] H = _
  exact e1 hG PT_179 k179_23 _ _ _
theorem b179_68 {G : AG} (hG : FIX G) (x0 : Nat) (x1 : Int32) (x2 : Int32) (x3 : Int32) (x4 : Int32) (x5 : Int32) (s0 : Int32) (H : Hp) : G 179 68 [some (.inr (.inr x0)), some (.inl x1), some (.inl x2), some (.inl x3), some (.inl x4), some (.inl x5)] [.inl s0] H = (some (some (.inl s0), H)) := by
  exact e1 hG PT_179 k179_68 _ _ _
-- StepsAheadModel.count(I)I
theorem PT_180 : PT 180 = pt180 := rfl
theorem k180_0 : lkp pt180 0 = iP 1 (fIld 1) := rfl
theorem k180_1 : lkp pt180 1 = iP 2 fI2l := rfl
theorem k180_2 : lkp pt180 2 = iP 3 (fK (.inr (.inl 0))) := rfl
theorem k180_3 : lkp pt180 3 = iP 6 (fK (.inr (.inl 4))) := rfl
theorem k180_6 : lkp pt180 6 = iC 9 130 6 3 1 := rfl
theorem k180_9 : lkp pt180 9 = iB 12 15 (b1 (fun x => decide (x ≠ 0))) := rfl
theorem k180_12 : lkp pt180 12 = iP 14 (fK (.inl (-1000001))) := rfl
theorem k180_14 : lkp pt180 14 = iRet rI := rfl
theorem k180_15 : lkp pt180 15 = iP 16 (fAld 0) := rfl
theorem k180_16 : lkp pt180 16 = iCK 19 12 153 3 1 0 := rfl
theorem k180_19 : lkp pt180 19 = iP 20 (fK (.inl 0)) := rfl
theorem k180_20 : lkp pt180 20 = iP 21 (fIst 2) := rfl
theorem k180_21 : lkp pt180 21 = iP 22 (fK (.inl 0)) := rfl
theorem k180_22 : lkp pt180 22 = iP 23 (fIst 3) := rfl
theorem k180_23 : lkp pt180 23 = iP 24 (fIld 3) := rfl
theorem k180_24 : lkp pt180 24 = iP 25 (fAld 0) := rfl
theorem k180_25 : lkp pt180 25 = iRI 28 (gtI 50) := rfl
theorem k180_28 : lkp pt180 28 = iB 31 201 (b2 (fun x y => decide (y ≤ x))) := rfl
theorem k180_31 : lkp pt180 31 = iP 32 (fK (.inl 0)) := rfl
theorem k180_32 : lkp pt180 32 = iP 34 (fIst 4) := rfl
theorem k180_34 : lkp pt180 34 = iP 35 (fK (.inl 0)) := rfl
theorem k180_35 : lkp pt180 35 = iP 37 (fIst 5) := rfl
theorem k180_37 : lkp pt180 37 = iP 39 (fIld 5) := rfl
theorem k180_39 : lkp pt180 39 = iP 40 (fAld 0) := rfl
theorem k180_40 : lkp pt180 40 = iRR 43 (gtR 51) := rfl
theorem k180_43 : lkp pt180 43 = iP 44 (fIld 3) := rfl
theorem k180_44 : lkp pt180 44 = iRI 45 qAI := rfl
theorem k180_45 : lkp pt180 45 = iB 48 80 (b2 (fun x y => decide (y ≤ x))) := rfl
theorem k180_48 : lkp pt180 48 = iP 50 (fIld 4) := rfl
theorem k180_50 : lkp pt180 50 = iP 51 (fAld 0) := rfl
theorem k180_51 : lkp pt180 51 = iRR 54 (gtR 52) := rfl
theorem k180_54 : lkp pt180 54 = iP 56 (fK (.inl 24)) := rfl
theorem k180_56 : lkp pt180 56 = iP 57 (fIld 3) := rfl
theorem k180_57 : lkp pt180 57 = iP 58 (f2I (fun x y => x * y)) := rfl
theorem k180_58 : lkp pt180 58 = iP 60 (fIld 5) := rfl
theorem k180_60 : lkp pt180 60 = iP 61 (f2I (fun x y => x + y)) := rfl
theorem k180_61 : lkp pt180 61 = iRI 62 qAI := rfl
theorem k180_62 : lkp pt180 62 = iP 63 (fK (.inl 4)) := rfl
theorem k180_63 : lkp pt180 63 = iB 66 70 (b2 (fun x y => decide (x ≠ y))) := rfl
theorem k180_66 : lkp pt180 66 = iP 67 (fK (.inl 1)) := rfl
theorem k180_67 : lkp pt180 67 = iP 71 fGo := rfl
theorem k180_70 : lkp pt180 70 = iP 71 (fK (.inl 0)) := rfl
theorem k180_71 : lkp pt180 71 = iP 72 (f2I (fun x y => x + y)) := rfl
theorem k180_72 : lkp pt180 72 = iP 74 (fIst 4) := rfl
theorem k180_74 : lkp pt180 74 = iP 77 (fInc 5 1) := rfl
theorem k180_77 : lkp pt180 77 = iP 37 fGo := rfl
theorem k180_80 : lkp pt180 80 = iP 81 (fAld 0) := rfl
theorem k180_81 : lkp pt180 81 = iRR 84 (gtR 68) := rfl
theorem k180_84 : lkp pt180 84 = iP 85 (fIld 3) := rfl
theorem k180_85 : lkp pt180 85 = iRI 86 qAZ := rfl
theorem k180_86 : lkp pt180 86 = iB 89 125 (b1 (fun x => decide (x = 0))) := rfl
theorem k180_89 : lkp pt180 89 = iP 90 (fAld 0) := rfl
theorem k180_90 : lkp pt180 90 = iRR 93 (gtR 70) := rfl
theorem k180_93 : lkp pt180 93 = iP 94 (fK (.inl 2)) := rfl
theorem k180_94 : lkp pt180 94 = iP 95 (fIld 3) := rfl
theorem k180_95 : lkp pt180 95 = iP 96 (f2I (fun x y => x * y)) := rfl
theorem k180_96 : lkp pt180 96 = iRI 97 qAZ := rfl
theorem k180_97 : lkp pt180 97 = iB 100 125 (b1 (fun x => decide (x ≠ 0))) := rfl
theorem k180_100 : lkp pt180 100 = iP 101 (fAld 0) := rfl
theorem k180_101 : lkp pt180 101 = iRR 104 (gtR 70) := rfl
theorem k180_104 : lkp pt180 104 = iP 105 (fK (.inl 2)) := rfl
theorem k180_105 : lkp pt180 105 = iP 106 (fIld 3) := rfl
theorem k180_106 : lkp pt180 106 = iP 107 (f2I (fun x y => x * y)) := rfl
theorem k180_107 : lkp pt180 107 = iP 108 (fK (.inl 1)) := rfl
theorem k180_108 : lkp pt180 108 = iP 109 (f2I (fun x y => x + y)) := rfl
theorem k180_109 : lkp pt180 109 = iRI 110 qAZ := rfl
theorem k180_110 : lkp pt180 110 = iB 113 125 (b1 (fun x => decide (x ≠ 0))) := rfl
theorem k180_113 : lkp pt180 113 = iP 114 (fAld 0) := rfl
theorem k180_114 : lkp pt180 114 = iP 115 (fIld 3) := rfl
theorem k180_115 : lkp pt180 115 = iCK 118 12 172 4 2 1 := rfl
theorem k180_118 : lkp pt180 118 = iB 121 125 (b1 (fun x => decide (x = 0))) := rfl
theorem k180_121 : lkp pt180 121 = iP 122 (fK (.inl 1)) := rfl
theorem k180_122 : lkp pt180 122 = iP 126 fGo := rfl
theorem k180_125 : lkp pt180 125 = iP 126 (fK (.inl 0)) := rfl
theorem k180_126 : lkp pt180 126 = iP 128 (fIst 5) := rfl
theorem k180_128 : lkp pt180 128 = iP 129 (fIld 2) := rfl
theorem k180_129 : lkp pt180 129 = iP 130 (fIld 1) := rfl
theorem k180_130 : lkp pt180 130 = iB 133 137 (b1 (fun x => decide (x ≠ 0))) := rfl
theorem k180_133 : lkp pt180 133 = iP 134 (fK (.inl 1)) := rfl
theorem k180_134 : lkp pt180 134 = iP 193 fGo := rfl
theorem k180_137 : lkp pt180 137 = iP 138 (fIld 1) := rfl
theorem k180_138 : lkp pt180 138 = iP 139 (fK (.inl 1)) := rfl
theorem k180_139 : lkp pt180 139 = iB 142 151 (b2 (fun x y => decide (x ≠ y))) := rfl
theorem k180_142 : lkp pt180 142 = iP 143 (fAld 0) := rfl
theorem k180_143 : lkp pt180 143 = iRR 146 (gtR 51) := rfl
theorem k180_146 : lkp pt180 146 = iP 147 (fIld 3) := rfl
theorem k180_147 : lkp pt180 147 = iRI 148 qAI := rfl
theorem k180_148 : lkp pt180 148 = iP 193 fGo := rfl
theorem k180_151 : lkp pt180 151 = iP 152 (fIld 1) := rfl
theorem k180_152 : lkp pt180 152 = iP 153 (fK (.inl 2)) := rfl
theorem k180_153 : lkp pt180 153 = iB 156 173 (b2 (fun x y => decide (x ≠ y))) := rfl
theorem k180_156 : lkp pt180 156 = iP 157 (fAld 0) := rfl
theorem k180_157 : lkp pt180 157 = iRR 160 (gtR 69) := rfl
theorem k180_160 : lkp pt180 160 = iP 161 (fIld 3) := rfl
theorem k180_161 : lkp pt180 161 = iRI 162 qAZ := rfl
theorem k180_162 : lkp pt180 162 = iB 165 169 (b1 (fun x => decide (x = 0))) := rfl
theorem k180_165 : lkp pt180 165 = iP 166 (fK (.inl 1)) := rfl
theorem k180_166 : lkp pt180 166 = iP 193 fGo := rfl
theorem k180_169 : lkp pt180 169 = iP 170 (fK (.inl 0)) := rfl
theorem k180_170 : lkp pt180 170 = iP 193 fGo := rfl
theorem k180_173 : lkp pt180 173 = iP 174 (fIld 1) := rfl
theorem k180_174 : lkp pt180 174 = iP 175 (fK (.inl 3)) := rfl
theorem k180_175 : lkp pt180 175 = iB 178 191 (b2 (fun x y => decide (x ≠ y))) := rfl
theorem k180_178 : lkp pt180 178 = iP 180 (fIld 5) := rfl
theorem k180_180 : lkp pt180 180 = iB 183 187 (b1 (fun x => decide (x = 0))) := rfl
theorem k180_183 : lkp pt180 183 = iP 184 (fK (.inl 1)) := rfl
theorem k180_184 : lkp pt180 184 = iP 193 fGo := rfl
theorem k180_187 : lkp pt180 187 = iP 188 (fK (.inl 0)) := rfl
theorem k180_188 : lkp pt180 188 = iP 193 fGo := rfl
theorem k180_191 : lkp pt180 191 = iP 193 (fIld 4) := rfl
theorem k180_193 : lkp pt180 193 = iP 194 (f2I (fun x y => x + y)) := rfl
set_option maxRecDepth 100000 in
theorem k180_194 : lkp pt180 194 = iP 195 (fIst 2) := rfl
set_option maxRecDepth 100000 in
theorem k180_195 : lkp pt180 195 = iP 198 (fInc 3 1) := rfl
set_option maxRecDepth 100000 in
theorem k180_198 : lkp pt180 198 = iP 23 fGo := rfl
set_option maxRecDepth 100000 in
theorem k180_201 : lkp pt180 201 = iP 202 (fIld 2) := rfl
set_option maxRecDepth 100000 in
theorem k180_202 : lkp pt180 202 = iRet rI := rfl
set_option maxRecDepth 100000 in
theorem b180_0 {G : AG} (hG : FIX G) (x0 : Nat) (x1 : Int32) (H : Hp) : G 180 0 [some (.inr (.inr x0)), some (.inl x1), none, none, none, none] [] H = ((G 130 0 [some (.inr (.inl x1.toInt64)), none, some (.inr (.inl 0)), none, some (.inr (.inl 4)), none] [] H).bind fun u1 => (asI u1.1).bind fun i2 => bif decide ((i2 : Int32) ≠ 0) then bif Nat.beq (u1.2.1 x0).1 12 then (G 153 0 [some (.inr (.inr x0)), none, none] [] u1.2).bind fun u3 => (asV u3.1).bind fun _ => G 180 23 [some (.inr (.inr x0)), some (.inl x1), some (.inl 0), some (.inl 0), none, none] [] u3.2 else none else some (some (.inl ((-1000001))), u1.2)) := by
  refine Eq.trans (e1 hG PT_180 k180_0 _ _ _) ?_
  show G 180 1 [some (.inr (.inr x0)), some (.inl x1), none, none, none, none] [.inl x1] H = _
  refine Eq.trans (e1 hG PT_180 k180_1 _ _ _) ?_
  show G 180 2 [some (.inr (.inr x0)), some (.inl x1), none, none, none, none] [.inr (.inl x1.toInt64)] H = _
  refine Eq.trans (e1 hG PT_180 k180_2 _ _ _) ?_
  show G 180 3 [some (.inr (.inr x0)), some (.inl x1), none, none, none, none] [.inr (.inl 0), .inr (.inl x1.toInt64)] H = _
  refine Eq.trans (e1 hG PT_180 k180_3 _ _ _) ?_
  show G 180 6 [some (.inr (.inr x0)), some (.inl x1), none, none, none, none] [.inr (.inl 4), .inr (.inl 0), .inr (.inl x1.toInt64)] H = _
  refine Eq.trans (e1 hG PT_180 k180_6 _ _ _) ?_
  refine bdc fun u1 => ?_
  refine bdc fun i2 => ?_
  show G 180 9 [some (.inr (.inr x0)), some (.inl x1), none, none, none, none] [.inl i2] u1.2 = _
  refine Eq.trans (e1 hG PT_180 k180_9 _ _ _) ?_
  refine bfc ?_ ?_
  · show G 180 15 [some (.inr (.inr x0)), some (.inl x1), none, none, none, none] [] u1.2 = _
    refine Eq.trans (e1 hG PT_180 k180_15 _ _ _) ?_
    show G 180 16 [some (.inr (.inr x0)), some (.inl x1), none, none, none, none] [.inr (.inr x0)] u1.2 = _
    refine Eq.trans (e1 hG PT_180 k180_16 _ _ _) ?_
    refine bfc ?_ ?_
    · refine bdc fun u3 => ?_
      refine bdc fun _ => ?_
      show G 180 19 [some (.inr (.inr x0)), some (.inl x1), none, none, none, none] [] u3.2 = _
      refine Eq.trans (e1 hG PT_180 k180_19 _ _ _) ?_
      show G 180 20 [some (.inr (.inr x0)), some (.inl x1), none, none, none, none] [.inl 0] u3.2 = _
      refine Eq.trans (e1 hG PT_180 k180_20 _ _ _) ?_
      show G 180 21 [some (.inr (.inr x0)), some (.inl x1), some (.inl 0), none, none, none] [] u3.2 = _
      refine Eq.trans (e1 hG PT_180 k180_21 _ _ _) ?_
      show G 180 22 [some (.inr (.inr x0)), some (.inl x1), some (.inl 0), none, none, none] [.inl 0] u3.2 = _
      refine Eq.trans (e1 hG PT_180 k180_22 _ _ _) ?_
      rfl
    · rfl
  · show G 180 12 [some (.inr (.inr x0)), some (.inl x1), none, none, none, none] [] u1.2 = _
    refine Eq.trans (e1 hG PT_180 k180_12 _ _ _) ?_
    show G 180 14 [some (.inr (.inr x0)), some (.inl x1), none, none, none, none] [.inl (-1000001)] u1.2 = _
    exact e1 hG PT_180 k180_14 _ _ _
set_option maxRecDepth 100000 in
theorem b180_23 {G : AG} (hG : FIX G) (x0 : Nat) (x1 : Int32) (x2 : Int32) (x3 : Int32) (o4 : Option AV) (o5 : Option AV) (H : Hp) : G 180 23 [some (.inr (.inr x0)), some (.inl x1), some (.inl x2), some (.inl x3), o4, o5] [] H = ((hgI H x0 50).bind fun i1 => bif decide ((i1 : Int32) ≤ (x3 : Int32)) then some (some (.inl x2), H) else G 180 37 [some (.inr (.inr x0)), some (.inl x1), some (.inl x2), some (.inl x3), some (.inl 0), some (.inl 0)] [] H) := by
  refine Eq.trans (e1 hG PT_180 k180_23 _ _ _) ?_
  show G 180 24 [some (.inr (.inr x0)), some (.inl x1), some (.inl x2), some (.inl x3), o4, o5] [.inl x3] H = _
  refine Eq.trans (e1 hG PT_180 k180_24 _ _ _) ?_
  show G 180 25 [some (.inr (.inr x0)), some (.inl x1), some (.inl x2), some (.inl x3), o4, o5] [.inr (.inr x0), .inl x3] H = _
  refine Eq.trans (e1 hG PT_180 k180_25 _ _ _) ?_
  refine bdc fun i1 => ?_
  show G 180 28 [some (.inr (.inr x0)), some (.inl x1), some (.inl x2), some (.inl x3), o4, o5] [.inl i1, .inl x3] H = _
  refine Eq.trans (e1 hG PT_180 k180_28 _ _ _) ?_
  refine bfc ?_ ?_
  · show G 180 201 [some (.inr (.inr x0)), some (.inl x1), some (.inl x2), some (.inl x3), o4, o5] [] H = _
    refine Eq.trans (e1 hG PT_180 k180_201 _ _ _) ?_
    show G 180 202 [some (.inr (.inr x0)), some (.inl x1), some (.inl x2), some (.inl x3), o4, o5] [.inl x2] H = _
    exact e1 hG PT_180 k180_202 _ _ _
  · show G 180 31 [some (.inr (.inr x0)), some (.inl x1), some (.inl x2), some (.inl x3), o4, o5] [] H = _
    refine Eq.trans (e1 hG PT_180 k180_31 _ _ _) ?_
    show G 180 32 [some (.inr (.inr x0)), some (.inl x1), some (.inl x2), some (.inl x3), o4, o5] [.inl 0] H = _
    refine Eq.trans (e1 hG PT_180 k180_32 _ _ _) ?_
    show G 180 34 [some (.inr (.inr x0)), some (.inl x1), some (.inl x2), some (.inl x3), some (.inl 0), o5] [] H = _
    refine Eq.trans (e1 hG PT_180 k180_34 _ _ _) ?_
    show G 180 35 [some (.inr (.inr x0)), some (.inl x1), some (.inl x2), some (.inl x3), some (.inl 0), o5] [.inl 0] H = _
    refine Eq.trans (e1 hG PT_180 k180_35 _ _ _) ?_
    rfl
set_option maxRecDepth 100000 in
theorem b180_37 {G : AG} (hG : FIX G) (x0 : Nat) (x1 : Int32) (x2 : Int32) (x3 : Int32) (x4 : Int32) (x5 : Int32) (H : Hp) : G 180 37 [some (.inr (.inr x0)), some (.inl x1), some (.inl x2), some (.inl x3), some (.inl x4), some (.inl x5)] [] H = ((hgR H x0 51).bind fun r1 => (hAI H r1 x3).bind fun i2 => bif decide ((i2 : Int32) ≤ (x5 : Int32)) then (hgR H x0 68).bind fun r3 => (hAZ H r3 x3).bind fun i4 => bif decide ((i4 : Int32) = 0) then G 180 125 [some (.inr (.inr x0)), some (.inl x1), some (.inl x2), some (.inl x3), some (.inl x4), some (.inl x5)] [] H else (hgR H x0 70).bind fun r5 => (hAZ H r5 ((2 * x3))).bind fun i6 => bif decide ((i6 : Int32) ≠ 0) then G 180 125 [some (.inr (.inr x0)), some (.inl x1), some (.inl x2), some (.inl x3), some (.inl x4), some (.inl x5)] [] H else (hgR H x0 70).bind fun r7 => (hAZ H r7 (((2 * x3) + 1))).bind fun i8 => bif decide ((i8 : Int32) ≠ 0) then G 180 125 [some (.inr (.inr x0)), some (.inl x1), some (.inl x2), some (.inl x3), some (.inl x4), some (.inl x5)] [] H else bif Nat.beq (H.1 x0).1 12 then (G 172 0 [some (.inr (.inr x0)), some (.inl x3), none, none] [] H).bind fun u9 => (asI u9.1).bind fun i10 => bif decide ((i10 : Int32) = 0) then G 180 125 [some (.inr (.inr x0)), some (.inl x1), some (.inl x2), some (.inl x3), some (.inl x4), some (.inl x5)] [] u9.2 else G 180 126 [some (.inr (.inr x0)), some (.inl x1), some (.inl x2), some (.inl x3), some (.inl x4), some (.inl x5)] [.inl 1] u9.2 else none else (hgR H x0 52).bind fun r11 => (hAI H r11 (((24 * x3) + x5))).bind fun i12 => bif decide ((i12 : Int32) ≠ (4 : Int32)) then G 180 71 [some (.inr (.inr x0)), some (.inl x1), some (.inl x2), some (.inl x3), some (.inl x4), some (.inl x5)] [.inl 0, .inl x4] H else G 180 71 [some (.inr (.inr x0)), some (.inl x1), some (.inl x2), some (.inl x3), some (.inl x4), some (.inl x5)] [.inl 1, .inl x4] H) := by
  refine Eq.trans (e1 hG PT_180 k180_37 _ _ _) ?_
  show G 180 39 [some (.inr (.inr x0)), some (.inl x1), some (.inl x2), some (.inl x3), some (.inl x4), some (.inl x5)] [.inl x5] H = _
  refine Eq.trans (e1 hG PT_180 k180_39 _ _ _) ?_
  show G 180 40 [some (.inr (.inr x0)), some (.inl x1), some (.inl x2), some (.inl x3), some (.inl x4), some (.inl x5)] [.inr (.inr x0), .inl x5] H = _
  refine Eq.trans (e1 hG PT_180 k180_40 _ _ _) ?_
  refine bdc fun r1 => ?_
  show G 180 43 [some (.inr (.inr x0)), some (.inl x1), some (.inl x2), some (.inl x3), some (.inl x4), some (.inl x5)] [.inr (.inr r1), .inl x5] H = _
  refine Eq.trans (e1 hG PT_180 k180_43 _ _ _) ?_
  show G 180 44 [some (.inr (.inr x0)), some (.inl x1), some (.inl x2), some (.inl x3), some (.inl x4), some (.inl x5)] [.inl x3, .inr (.inr r1), .inl x5] H = _
  refine Eq.trans (e1 hG PT_180 k180_44 _ _ _) ?_
  refine bdc fun i2 => ?_
  show G 180 45 [some (.inr (.inr x0)), some (.inl x1), some (.inl x2), some (.inl x3), some (.inl x4), some (.inl x5)] [.inl i2, .inl x5] H = _
  refine Eq.trans (e1 hG PT_180 k180_45 _ _ _) ?_
  refine bfc ?_ ?_
  · show G 180 80 [some (.inr (.inr x0)), some (.inl x1), some (.inl x2), some (.inl x3), some (.inl x4), some (.inl x5)] [] H = _
    refine Eq.trans (e1 hG PT_180 k180_80 _ _ _) ?_
    show G 180 81 [some (.inr (.inr x0)), some (.inl x1), some (.inl x2), some (.inl x3), some (.inl x4), some (.inl x5)] [.inr (.inr x0)] H = _
    refine Eq.trans (e1 hG PT_180 k180_81 _ _ _) ?_
    refine bdc fun r3 => ?_
    show G 180 84 [some (.inr (.inr x0)), some (.inl x1), some (.inl x2), some (.inl x3), some (.inl x4), some (.inl x5)] [.inr (.inr r3)] H = _
    refine Eq.trans (e1 hG PT_180 k180_84 _ _ _) ?_
    show G 180 85 [some (.inr (.inr x0)), some (.inl x1), some (.inl x2), some (.inl x3), some (.inl x4), some (.inl x5)] [.inl x3, .inr (.inr r3)] H = _
    refine Eq.trans (e1 hG PT_180 k180_85 _ _ _) ?_
    refine bdc fun i4 => ?_
    show G 180 86 [some (.inr (.inr x0)), some (.inl x1), some (.inl x2), some (.inl x3), some (.inl x4), some (.inl x5)] [.inl i4] H = _
    refine Eq.trans (e1 hG PT_180 k180_86 _ _ _) ?_
    refine bfc ?_ ?_
    · rfl
    · show G 180 89 [some (.inr (.inr x0)), some (.inl x1), some (.inl x2), some (.inl x3), some (.inl x4), some (.inl x5)] [] H = _
      refine Eq.trans (e1 hG PT_180 k180_89 _ _ _) ?_
      show G 180 90 [some (.inr (.inr x0)), some (.inl x1), some (.inl x2), some (.inl x3), some (.inl x4), some (.inl x5)] [.inr (.inr x0)] H = _
      refine Eq.trans (e1 hG PT_180 k180_90 _ _ _) ?_
      refine bdc fun r5 => ?_
      show G 180 93 [some (.inr (.inr x0)), some (.inl x1), some (.inl x2), some (.inl x3), some (.inl x4), some (.inl x5)] [.inr (.inr r5)] H = _
      refine Eq.trans (e1 hG PT_180 k180_93 _ _ _) ?_
      show G 180 94 [some (.inr (.inr x0)), some (.inl x1), some (.inl x2), some (.inl x3), some (.inl x4), some (.inl x5)] [.inl 2, .inr (.inr r5)] H = _
      refine Eq.trans (e1 hG PT_180 k180_94 _ _ _) ?_
      show G 180 95 [some (.inr (.inr x0)), some (.inl x1), some (.inl x2), some (.inl x3), some (.inl x4), some (.inl x5)] [.inl x3, .inl 2, .inr (.inr r5)] H = _
      refine Eq.trans (e1 hG PT_180 k180_95 _ _ _) ?_
      show G 180 96 [some (.inr (.inr x0)), some (.inl x1), some (.inl x2), some (.inl x3), some (.inl x4), some (.inl x5)] [.inl (2 * x3), .inr (.inr r5)] H = _
      refine Eq.trans (e1 hG PT_180 k180_96 _ _ _) ?_
      refine bdc fun i6 => ?_
      show G 180 97 [some (.inr (.inr x0)), some (.inl x1), some (.inl x2), some (.inl x3), some (.inl x4), some (.inl x5)] [.inl i6] H = _
      refine Eq.trans (e1 hG PT_180 k180_97 _ _ _) ?_
      refine bfc ?_ ?_
      · rfl
      · show G 180 100 [some (.inr (.inr x0)), some (.inl x1), some (.inl x2), some (.inl x3), some (.inl x4), some (.inl x5)] [] H = _
        refine Eq.trans (e1 hG PT_180 k180_100 _ _ _) ?_
        show G 180 101 [some (.inr (.inr x0)), some (.inl x1), some (.inl x2), some (.inl x3), some (.inl x4), some (.inl x5)] [.inr (.inr x0)] H = _
        refine Eq.trans (e1 hG PT_180 k180_101 _ _ _) ?_
        refine bdc fun r7 => ?_
        show G 180 104 [some (.inr (.inr x0)), some (.inl x1), some (.inl x2), some (.inl x3), some (.inl x4), some (.inl x5)] [.inr (.inr r7)] H = _
        refine Eq.trans (e1 hG PT_180 k180_104 _ _ _) ?_
        show G 180 105 [some (.inr (.inr x0)), some (.inl x1), some (.inl x2), some (.inl x3), some (.inl x4), some (.inl x5)] [.inl 2, .inr (.inr r7)] H = _
        refine Eq.trans (e1 hG PT_180 k180_105 _ _ _) ?_
        show G 180 106 [some (.inr (.inr x0)), some (.inl x1), some (.inl x2), some (.inl x3), some (.inl x4), some (.inl x5)] [.inl x3, .inl 2, .inr (.inr r7)] H = _
        refine Eq.trans (e1 hG PT_180 k180_106 _ _ _) ?_
        show G 180 107 [some (.inr (.inr x0)), some (.inl x1), some (.inl x2), some (.inl x3), some (.inl x4), some (.inl x5)] [.inl (2 * x3), .inr (.inr r7)] H = _
        refine Eq.trans (e1 hG PT_180 k180_107 _ _ _) ?_
        show G 180 108 [some (.inr (.inr x0)), some (.inl x1), some (.inl x2), some (.inl x3), some (.inl x4), some (.inl x5)] [.inl 1, .inl (2 * x3), .inr (.inr r7)] H = _
        refine Eq.trans (e1 hG PT_180 k180_108 _ _ _) ?_
        show G 180 109 [some (.inr (.inr x0)), some (.inl x1), some (.inl x2), some (.inl x3), some (.inl x4), some (.inl x5)] [.inl ((2 * x3) + 1), .inr (.inr r7)] H = _
        refine Eq.trans (e1 hG PT_180 k180_109 _ _ _) ?_
        refine bdc fun i8 => ?_
        show G 180 110 [some (.inr (.inr x0)), some (.inl x1), some (.inl x2), some (.inl x3), some (.inl x4), some (.inl x5)] [.inl i8] H = _
        refine Eq.trans (e1 hG PT_180 k180_110 _ _ _) ?_
        refine bfc ?_ ?_
        · rfl
        · show G 180 113 [some (.inr (.inr x0)), some (.inl x1), some (.inl x2), some (.inl x3), some (.inl x4), some (.inl x5)] [] H = _
          refine Eq.trans (e1 hG PT_180 k180_113 _ _ _) ?_
          show G 180 114 [some (.inr (.inr x0)), some (.inl x1), some (.inl x2), some (.inl x3), some (.inl x4), some (.inl x5)] [.inr (.inr x0)] H = _
          refine Eq.trans (e1 hG PT_180 k180_114 _ _ _) ?_
          show G 180 115 [some (.inr (.inr x0)), some (.inl x1), some (.inl x2), some (.inl x3), some (.inl x4), some (.inl x5)] [.inl x3, .inr (.inr x0)] H = _
          refine Eq.trans (e1 hG PT_180 k180_115 _ _ _) ?_
          refine bfc ?_ ?_
          · refine bdc fun u9 => ?_
            refine bdc fun i10 => ?_
            show G 180 118 [some (.inr (.inr x0)), some (.inl x1), some (.inl x2), some (.inl x3), some (.inl x4), some (.inl x5)] [.inl i10] u9.2 = _
            refine Eq.trans (e1 hG PT_180 k180_118 _ _ _) ?_
            refine bfc ?_ ?_
            · rfl
            · show G 180 121 [some (.inr (.inr x0)), some (.inl x1), some (.inl x2), some (.inl x3), some (.inl x4), some (.inl x5)] [] u9.2 = _
              refine Eq.trans (e1 hG PT_180 k180_121 _ _ _) ?_
              show G 180 122 [some (.inr (.inr x0)), some (.inl x1), some (.inl x2), some (.inl x3), some (.inl x4), some (.inl x5)] [.inl 1] u9.2 = _
              refine Eq.trans (e1 hG PT_180 k180_122 _ _ _) ?_
              rfl
          · rfl
  · show G 180 48 [some (.inr (.inr x0)), some (.inl x1), some (.inl x2), some (.inl x3), some (.inl x4), some (.inl x5)] [] H = _
    refine Eq.trans (e1 hG PT_180 k180_48 _ _ _) ?_
    show G 180 50 [some (.inr (.inr x0)), some (.inl x1), some (.inl x2), some (.inl x3), some (.inl x4), some (.inl x5)] [.inl x4] H = _
    refine Eq.trans (e1 hG PT_180 k180_50 _ _ _) ?_
    show G 180 51 [some (.inr (.inr x0)), some (.inl x1), some (.inl x2), some (.inl x3), some (.inl x4), some (.inl x5)] [.inr (.inr x0), .inl x4] H = _
    refine Eq.trans (e1 hG PT_180 k180_51 _ _ _) ?_
    refine bdc fun r11 => ?_
    show G 180 54 [some (.inr (.inr x0)), some (.inl x1), some (.inl x2), some (.inl x3), some (.inl x4), some (.inl x5)] [.inr (.inr r11), .inl x4] H = _
    refine Eq.trans (e1 hG PT_180 k180_54 _ _ _) ?_
    show G 180 56 [some (.inr (.inr x0)), some (.inl x1), some (.inl x2), some (.inl x3), some (.inl x4), some (.inl x5)] [.inl 24, .inr (.inr r11), .inl x4] H = _
    refine Eq.trans (e1 hG PT_180 k180_56 _ _ _) ?_
    show G 180 57 [some (.inr (.inr x0)), some (.inl x1), some (.inl x2), some (.inl x3), some (.inl x4), some (.inl x5)] [.inl x3, .inl 24, .inr (.inr r11), .inl x4] H = _
    refine Eq.trans (e1 hG PT_180 k180_57 _ _ _) ?_
    show G 180 58 [some (.inr (.inr x0)), some (.inl x1), some (.inl x2), some (.inl x3), some (.inl x4), some (.inl x5)] [.inl (24 * x3), .inr (.inr r11), .inl x4] H = _
    refine Eq.trans (e1 hG PT_180 k180_58 _ _ _) ?_
    show G 180 60 [some (.inr (.inr x0)), some (.inl x1), some (.inl x2), some (.inl x3), some (.inl x4), some (.inl x5)] [.inl x5, .inl (24 * x3), .inr (.inr r11), .inl x4] H = _
    refine Eq.trans (e1 hG PT_180 k180_60 _ _ _) ?_
    show G 180 61 [some (.inr (.inr x0)), some (.inl x1), some (.inl x2), some (.inl x3), some (.inl x4), some (.inl x5)] [.inl ((24 * x3) + x5), .inr (.inr r11), .inl x4] H = _
    refine Eq.trans (e1 hG PT_180 k180_61 _ _ _) ?_
    refine bdc fun i12 => ?_
    show G 180 62 [some (.inr (.inr x0)), some (.inl x1), some (.inl x2), some (.inl x3), some (.inl x4), some (.inl x5)] [.inl i12, .inl x4] H = _
    refine Eq.trans (e1 hG PT_180 k180_62 _ _ _) ?_
    show G 180 63 [some (.inr (.inr x0)), some (.inl x1), some (.inl x2), some (.inl x3), some (.inl x4), some (.inl x5)] [.inl 4, .inl i12, .inl x4] H = _
    refine Eq.trans (e1 hG PT_180 k180_63 _ _ _) ?_
    refine bfc ?_ ?_
    · show G 180 70 [some (.inr (.inr x0)), some (.inl x1), some (.inl x2), some (.inl x3), some (.inl x4), some (.inl x5)] [.inl x4] H = _
      refine Eq.trans (e1 hG PT_180 k180_70 _ _ _) ?_
      rfl
    · show G 180 66 [some (.inr (.inr x0)), some (.inl x1), some (.inl x2), some (.inl x3), some (.inl x4), some (.inl x5)] [.inl x4] H = _
      refine Eq.trans (e1 hG PT_180 k180_66 _ _ _) ?_
      show G 180 67 [some (.inr (.inr x0)), some (.inl x1), some (.inl x2), some (.inl x3), some (.inl x4), some (.inl x5)] [.inl 1, .inl x4] H = _
      refine Eq.trans (e1 hG PT_180 k180_67 _ _ _) ?_
      rfl
set_option maxRecDepth 100000 in
theorem b180_71 {G : AG} (hG : FIX G) (x0 : Nat) (x1 : Int32) (x2 : Int32) (x3 : Int32) (x4 : Int32) (x5 : Int32) (s0 : Int32) (s1 : Int32) (H : Hp) : G 180 71 [some (.inr (.inr x0)), some (.inl x1), some (.inl x2), some (.inl x3), some (.inl x4), some (.inl x5)] [.inl s0, .inl s1] H = (G 180 37 [some (.inr (.inr x0)), some (.inl x1), some (.inl x2), some (.inl x3), some (.inl (s1 + s0)), some (.inl (x5 + 1))] [] H) := by
  refine Eq.trans (e1 hG PT_180 k180_71 _ _ _) ?_
  show G 180 72 [some (.inr (.inr x0)), some (.inl x1), some (.inl x2), some (.inl x3), some (.inl x4), some (.inl x5)] [.inl (s1 + s0)] H = _
  refine Eq.trans (e1 hG PT_180 k180_72 _ _ _) ?_
  show G 180 74 [some (.inr (.inr x0)), some (.inl x1), some (.inl x2), some (.inl x3), some (.inl (s1 + s0)), some (.inl x5)] [] H = _
  refine Eq.trans (e1 hG PT_180 k180_74 _ _ _) ?_
  show G 180 77 [some (.inr (.inr x0)), some (.inl x1), some (.inl x2), some (.inl x3), some (.inl (s1 + s0)), some (.inl (x5 + 1))] [] H = _
  refine Eq.trans (e1 hG PT_180 k180_77 _ _ _) ?_
  rfl
set_option maxRecDepth 100000 in
theorem b180_125 {G : AG} (hG : FIX G) (x0 : Nat) (x1 : Int32) (x2 : Int32) (x3 : Int32) (x4 : Int32) (x5 : Int32) (H : Hp) : G 180 125 [some (.inr (.inr x0)), some (.inl x1), some (.inl x2), some (.inl x3), some (.inl x4), some (.inl x5)] [] H = (G 180 126 [some (.inr (.inr x0)), some (.inl x1), some (.inl x2), some (.inl x3), some (.inl x4), some (.inl x5)] [.inl 0] H) := by
  refine Eq.trans (e1 hG PT_180 k180_125 _ _ _) ?_
  rfl
set_option maxRecDepth 100000 in
theorem b180_126 {G : AG} (hG : FIX G) (x0 : Nat) (x1 : Int32) (x2 : Int32) (x3 : Int32) (x4 : Int32) (x5 : Int32) (s0 : Int32) (H : Hp) : G 180 126 [some (.inr (.inr x0)), some (.inl x1), some (.inl x2), some (.inl x3), some (.inl x4), some (.inl x5)] [.inl s0] H = (bif decide ((x1 : Int32) ≠ 0) then bif decide ((x1 : Int32) ≠ (1 : Int32)) then bif decide ((x1 : Int32) ≠ (2 : Int32)) then bif decide ((x1 : Int32) ≠ (3 : Int32)) then G 180 193 [some (.inr (.inr x0)), some (.inl x1), some (.inl x2), some (.inl x3), some (.inl x4), some (.inl s0)] [.inl x4, .inl x2] H else bif decide ((s0 : Int32) = 0) then G 180 193 [some (.inr (.inr x0)), some (.inl x1), some (.inl x2), some (.inl x3), some (.inl x4), some (.inl s0)] [.inl 0, .inl x2] H else G 180 193 [some (.inr (.inr x0)), some (.inl x1), some (.inl x2), some (.inl x3), some (.inl x4), some (.inl s0)] [.inl 1, .inl x2] H else (hgR H x0 69).bind fun r1 => (hAZ H r1 x3).bind fun i2 => bif decide ((i2 : Int32) = 0) then G 180 193 [some (.inr (.inr x0)), some (.inl x1), some (.inl x2), some (.inl x3), some (.inl x4), some (.inl s0)] [.inl 0, .inl x2] H else G 180 193 [some (.inr (.inr x0)), some (.inl x1), some (.inl x2), some (.inl x3), some (.inl x4), some (.inl s0)] [.inl 1, .inl x2] H else (hgR H x0 51).bind fun r3 => (hAI H r3 x3).bind fun i4 => G 180 193 [some (.inr (.inr x0)), some (.inl x1), some (.inl x2), some (.inl x3), some (.inl x4), some (.inl s0)] [.inl i4, .inl x2] H else G 180 193 [some (.inr (.inr x0)), some (.inl x1), some (.inl x2), some (.inl x3), some (.inl x4), some (.inl s0)] [.inl 1, .inl x2] H) := by
  refine Eq.trans (e1 hG PT_180 k180_126 _ _ _) ?_
  show G 180 128 [some (.inr (.inr x0)), some (.inl x1), some (.inl x2), some (.inl x3), some (.inl x4), some (.inl s0)] [] H = _
  refine Eq.trans (e1 hG PT_180 k180_128 _ _ _) ?_
  show G 180 129 [some (.inr (.inr x0)), some (.inl x1), some (.inl x2), some (.inl x3), some (.inl x4), some (.inl s0)] [.inl x2] H = _
  refine Eq.trans (e1 hG PT_180 k180_129 _ _ _) ?_
  show G 180 130 [some (.inr (.inr x0)), some (.inl x1), some (.inl x2), some (.inl x3), some (.inl x4), some (.inl s0)] [.inl x1, .inl x2] H = _
  refine Eq.trans (e1 hG PT_180 k180_130 _ _ _) ?_
  refine bfc ?_ ?_
  · show G 180 137 [some (.inr (.inr x0)), some (.inl x1), some (.inl x2), some (.inl x3), some (.inl x4), some (.inl s0)] [.inl x2] H = _
    refine Eq.trans (e1 hG PT_180 k180_137 _ _ _) ?_
    show G 180 138 [some (.inr (.inr x0)), some (.inl x1), some (.inl x2), some (.inl x3), some (.inl x4), some (.inl s0)] [.inl x1, .inl x2] H = _
    refine Eq.trans (e1 hG PT_180 k180_138 _ _ _) ?_
    show G 180 139 [some (.inr (.inr x0)), some (.inl x1), some (.inl x2), some (.inl x3), some (.inl x4), some (.inl s0)] [.inl 1, .inl x1, .inl x2] H = _
    refine Eq.trans (e1 hG PT_180 k180_139 _ _ _) ?_
    refine bfc ?_ ?_
    · show G 180 151 [some (.inr (.inr x0)), some (.inl x1), some (.inl x2), some (.inl x3), some (.inl x4), some (.inl s0)] [.inl x2] H = _
      refine Eq.trans (e1 hG PT_180 k180_151 _ _ _) ?_
      show G 180 152 [some (.inr (.inr x0)), some (.inl x1), some (.inl x2), some (.inl x3), some (.inl x4), some (.inl s0)] [.inl x1, .inl x2] H = _
      refine Eq.trans (e1 hG PT_180 k180_152 _ _ _) ?_
      show G 180 153 [some (.inr (.inr x0)), some (.inl x1), some (.inl x2), some (.inl x3), some (.inl x4), some (.inl s0)] [.inl 2, .inl x1, .inl x2] H = _
      refine Eq.trans (e1 hG PT_180 k180_153 _ _ _) ?_
      refine bfc ?_ ?_
      · show G 180 173 [some (.inr (.inr x0)), some (.inl x1), some (.inl x2), some (.inl x3), some (.inl x4), some (.inl s0)] [.inl x2] H = _
        refine Eq.trans (e1 hG PT_180 k180_173 _ _ _) ?_
        show G 180 174 [some (.inr (.inr x0)), some (.inl x1), some (.inl x2), some (.inl x3), some (.inl x4), some (.inl s0)] [.inl x1, .inl x2] H = _
        refine Eq.trans (e1 hG PT_180 k180_174 _ _ _) ?_
        show G 180 175 [some (.inr (.inr x0)), some (.inl x1), some (.inl x2), some (.inl x3), some (.inl x4), some (.inl s0)] [.inl 3, .inl x1, .inl x2] H = _
        refine Eq.trans (e1 hG PT_180 k180_175 _ _ _) ?_
        refine bfc ?_ ?_
        · show G 180 191 [some (.inr (.inr x0)), some (.inl x1), some (.inl x2), some (.inl x3), some (.inl x4), some (.inl s0)] [.inl x2] H = _
          refine Eq.trans (e1 hG PT_180 k180_191 _ _ _) ?_
          rfl
        · show G 180 178 [some (.inr (.inr x0)), some (.inl x1), some (.inl x2), some (.inl x3), some (.inl x4), some (.inl s0)] [.inl x2] H = _
          refine Eq.trans (e1 hG PT_180 k180_178 _ _ _) ?_
          show G 180 180 [some (.inr (.inr x0)), some (.inl x1), some (.inl x2), some (.inl x3), some (.inl x4), some (.inl s0)] [.inl s0, .inl x2] H = _
          refine Eq.trans (e1 hG PT_180 k180_180 _ _ _) ?_
          refine bfc ?_ ?_
          · show G 180 187 [some (.inr (.inr x0)), some (.inl x1), some (.inl x2), some (.inl x3), some (.inl x4), some (.inl s0)] [.inl x2] H = _
            refine Eq.trans (e1 hG PT_180 k180_187 _ _ _) ?_
            show G 180 188 [some (.inr (.inr x0)), some (.inl x1), some (.inl x2), some (.inl x3), some (.inl x4), some (.inl s0)] [.inl 0, .inl x2] H = _
            refine Eq.trans (e1 hG PT_180 k180_188 _ _ _) ?_
            rfl
          · show G 180 183 [some (.inr (.inr x0)), some (.inl x1), some (.inl x2), some (.inl x3), some (.inl x4), some (.inl s0)] [.inl x2] H = _
            refine Eq.trans (e1 hG PT_180 k180_183 _ _ _) ?_
            show G 180 184 [some (.inr (.inr x0)), some (.inl x1), some (.inl x2), some (.inl x3), some (.inl x4), some (.inl s0)] [.inl 1, .inl x2] H = _
            refine Eq.trans (e1 hG PT_180 k180_184 _ _ _) ?_
            rfl
      · show G 180 156 [some (.inr (.inr x0)), some (.inl x1), some (.inl x2), some (.inl x3), some (.inl x4), some (.inl s0)] [.inl x2] H = _
        refine Eq.trans (e1 hG PT_180 k180_156 _ _ _) ?_
        show G 180 157 [some (.inr (.inr x0)), some (.inl x1), some (.inl x2), some (.inl x3), some (.inl x4), some (.inl s0)] [.inr (.inr x0), .inl x2] H = _
        refine Eq.trans (e1 hG PT_180 k180_157 _ _ _) ?_
        refine bdc fun r1 => ?_
        show G 180 160 [some (.inr (.inr x0)), some (.inl x1), some (.inl x2), some (.inl x3), some (.inl x4), some (.inl s0)] [.inr (.inr r1), .inl x2] H = _
        refine Eq.trans (e1 hG PT_180 k180_160 _ _ _) ?_
        show G 180 161 [some (.inr (.inr x0)), some (.inl x1), some (.inl x2), some (.inl x3), some (.inl x4), some (.inl s0)] [.inl x3, .inr (.inr r1), .inl x2] H = _
        refine Eq.trans (e1 hG PT_180 k180_161 _ _ _) ?_
        refine bdc fun i2 => ?_
        show G 180 162 [some (.inr (.inr x0)), some (.inl x1), some (.inl x2), some (.inl x3), some (.inl x4), some (.inl s0)] [.inl i2, .inl x2] H = _
        refine Eq.trans (e1 hG PT_180 k180_162 _ _ _) ?_
        refine bfc ?_ ?_
        · show G 180 169 [some (.inr (.inr x0)), some (.inl x1), some (.inl x2), some (.inl x3), some (.inl x4), some (.inl s0)] [.inl x2] H = _
          refine Eq.trans (e1 hG PT_180 k180_169 _ _ _) ?_
          show G 180 170 [some (.inr (.inr x0)), some (.inl x1), some (.inl x2), some (.inl x3), some (.inl x4), some (.inl s0)] [.inl 0, .inl x2] H = _
          refine Eq.trans (e1 hG PT_180 k180_170 _ _ _) ?_
          rfl
        · show G 180 165 [some (.inr (.inr x0)), some (.inl x1), some (.inl x2), some (.inl x3), some (.inl x4), some (.inl s0)] [.inl x2] H = _
          refine Eq.trans (e1 hG PT_180 k180_165 _ _ _) ?_
          show G 180 166 [some (.inr (.inr x0)), some (.inl x1), some (.inl x2), some (.inl x3), some (.inl x4), some (.inl s0)] [.inl 1, .inl x2] H = _
          refine Eq.trans (e1 hG PT_180 k180_166 _ _ _) ?_
          rfl
    · show G 180 142 [some (.inr (.inr x0)), some (.inl x1), some (.inl x2), some (.inl x3), some (.inl x4), some (.inl s0)] [.inl x2] H = _
      refine Eq.trans (e1 hG PT_180 k180_142 _ _ _) ?_
      show G 180 143 [some (.inr (.inr x0)), some (.inl x1), some (.inl x2), some (.inl x3), some (.inl x4), some (.inl s0)] [.inr (.inr x0), .inl x2] H = _
      refine Eq.trans (e1 hG PT_180 k180_143 _ _ _) ?_
      refine bdc fun r3 => ?_
      show G 180 146 [some (.inr (.inr x0)), some (.inl x1), some (.inl x2), some (.inl x3), some (.inl x4), some (.inl s0)] [.inr (.inr r3), .inl x2] H = _
      refine Eq.trans (e1 hG PT_180 k180_146 _ _ _) ?_
      show G 180 147 [some (.inr (.inr x0)), some (.inl x1), some (.inl x2), some (.inl x3), some (.inl x4), some (.inl s0)] [.inl x3, .inr (.inr r3), .inl x2] H = _
      refine Eq.trans (e1 hG PT_180 k180_147 _ _ _) ?_
      refine bdc fun i4 => ?_
      show G 180 148 [some (.inr (.inr x0)), some (.inl x1), some (.inl x2), some (.inl x3), some (.inl x4), some (.inl s0)] [.inl i4, .inl x2] H = _
      refine Eq.trans (e1 hG PT_180 k180_148 _ _ _) ?_
      rfl
  · show G 180 133 [some (.inr (.inr x0)), some (.inl x1), some (.inl x2), some (.inl x3), some (.inl x4), some (.inl s0)] [.inl x2] H = _
    refine Eq.trans (e1 hG PT_180 k180_133 _ _ _) ?_
    show G 180 134 [some (.inr (.inr x0)), some (.inl x1), some (.inl x2), some (.inl x3), some (.inl x4), some (.inl s0)] [.inl 1, .inl x2] H = _
    refine Eq.trans (e1 hG PT_180 k180_134 _ _ _) ?_
    rfl
set_option maxRecDepth 100000 in
theorem b180_193 {G : AG} (hG : FIX G) (x0 : Nat) (x1 : Int32) (x2 : Int32) (x3 : Int32) (x4 : Int32) (x5 : Int32) (s0 : Int32) (s1 : Int32) (H : Hp) : G 180 193 [some (.inr (.inr x0)), some (.inl x1), some (.inl x2), some (.inl x3), some (.inl x4), some (.inl x5)] [.inl s0, .inl s1] H = (G 180 23 [some (.inr (.inr x0)), some (.inl x1), some (.inl (s1 + s0)), some (.inl (x3 + 1)), some (.inl x4), some (.inl x5)] [] H) := by
  refine Eq.trans (e1 hG PT_180 k180_193 _ _ _) ?_
  show G 180 194 [some (.inr (.inr x0)), some (.inl x1), some (.inl x2), some (.inl x3), some (.inl x4), some (.inl x5)] [.inl (s1 + s0)] H = _
  refine Eq.trans (e1 hG PT_180 k180_194 _ _ _) ?_
  show G 180 195 [some (.inr (.inr x0)), some (.inl x1), some (.inl (s1 + s0)), some (.inl x3), some (.inl x4), some (.inl x5)] [] H = _
  refine Eq.trans (e1 hG PT_180 k180_195 _ _ _) ?_
  show G 180 198 [some (.inr (.inr x0)), some (.inl x1), some (.inl (s1 + s0)), some (.inl (x3 + 1)), some (.inl x4), some (.inl x5)] [] H = _
  refine Eq.trans (e1 hG PT_180 k180_198 _ _ _) ?_
  rfl
-- StepsAheadLaw.law([I)Z
theorem PT_181 : PT 181 = pt181 := rfl
theorem k181_0 : lkp pt181 0 = iW 3 (wNew 11 7) := rfl
theorem k181_3 : lkp pt181 3 = iP 4 fDup := rfl
theorem k181_4 : lkp pt181 4 = iCK 7 11 0 2 1 0 := rfl
theorem k181_7 : lkp pt181 7 = iP 8 (fAst 1) := rfl
theorem k181_8 : lkp pt181 8 = iW 11 (wNew 12 40) := rfl
theorem k181_11 : lkp pt181 11 = iP 12 fDup := rfl
theorem k181_12 : lkp pt181 12 = iCK 15 12 127 6 1 0 := rfl
theorem k181_15 : lkp pt181 15 = iP 16 (fAst 2) := rfl
theorem k181_16 : lkp pt181 16 = iP 17 (fK (.inl 0)) := rfl
theorem k181_17 : lkp pt181 17 = iP 18 (fIst 3) := rfl
theorem k181_18 : lkp pt181 18 = iP 19 (fIld 3) := rfl
theorem k181_19 : lkp pt181 19 = iP 20 (fAld 0) := rfl
theorem k181_20 : lkp pt181 20 = iRI 21 qLen := rfl
theorem k181_21 : lkp pt181 21 = iP 23 (fK (.inl 8)) := rfl
theorem k181_23 : lkp pt181 23 = iP 24 (f2I (fun x y => x - y)) := rfl
theorem k181_24 : lkp pt181 24 = iB 27 907 (b2 (fun x y => decide (y < x))) := rfl
theorem k181_27 : lkp pt181 27 = iP 28 (fAld 0) := rfl
theorem k181_28 : lkp pt181 28 = iP 29 (fIld 3) := rfl
theorem k181_29 : lkp pt181 29 = iRI 30 qAI := rfl
theorem k181_30 : lkp pt181 30 = iP 32 (fK (.inl 31)) := rfl
theorem k181_32 : lkp pt181 32 = iP 33 (f2I (fun x y => x &&& y)) := rfl
theorem k181_33 : lkp pt181 33 = iSw 901 0 [132, 145, 232, 265, 288, 321, 344, 377, 400, 433, 476, 519, 562, 585, 618, 672, 726, 749, 802, 825, 878] := rfl
theorem k181_132 : lkp pt181 132 = iP 133 (fAld 1) := rfl
theorem k181_133 : lkp pt181 133 = iCK 136 11 11 1 1 1 := rfl
theorem k181_136 : lkp pt181 136 = iP 137 (fAld 2) := rfl
theorem k181_137 : lkp pt181 137 = iCK 140 12 128 1 1 1 := rfl
theorem k181_140 : lkp pt181 140 = iB 143 901 (b2 (fun x y => decide (x = y))) := rfl
theorem k181_143 : lkp pt181 143 = iP 144 (fK (.inl 0)) := rfl
theorem k181_144 : lkp pt181 144 = iRet rZ := rfl
theorem k181_145 : lkp pt181 145 = iP 146 (fAld 1) := rfl
theorem k181_146 : lkp pt181 146 = iP 147 (fAld 0) := rfl
theorem k181_147 : lkp pt181 147 = iP 148 (fIld 3) := rfl
theorem k181_148 : lkp pt181 148 = iP 149 (fK (.inl 1)) := rfl
theorem k181_149 : lkp pt181 149 = iP 150 (f2I (fun x y => x + y)) := rfl
theorem k181_150 : lkp pt181 150 = iRI 151 qAI := rfl
theorem k181_151 : lkp pt181 151 = iP 152 (fAld 0) := rfl
theorem k181_152 : lkp pt181 152 = iP 153 (fIld 3) := rfl
theorem k181_153 : lkp pt181 153 = iP 154 (fK (.inl 2)) := rfl
theorem k181_154 : lkp pt181 154 = iP 155 (f2I (fun x y => x + y)) := rfl
theorem k181_155 : lkp pt181 155 = iRI 156 qAI := rfl
theorem k181_156 : lkp pt181 156 = iP 157 (fAld 0) := rfl
theorem k181_157 : lkp pt181 157 = iP 158 (fIld 3) := rfl
theorem k181_158 : lkp pt181 158 = iP 159 (fK (.inl 3)) := rfl
theorem k181_159 : lkp pt181 159 = iP 160 (f2I (fun x y => x + y)) := rfl
theorem k181_160 : lkp pt181 160 = iRI 161 qAI := rfl
theorem k181_161 : lkp pt181 161 = iP 162 (fAld 0) := rfl
theorem k181_162 : lkp pt181 162 = iP 163 (fIld 3) := rfl
theorem k181_163 : lkp pt181 163 = iP 164 (fK (.inl 4)) := rfl
theorem k181_164 : lkp pt181 164 = iP 165 (f2I (fun x y => x + y)) := rfl
theorem k181_165 : lkp pt181 165 = iRI 166 qAI := rfl
theorem k181_166 : lkp pt181 166 = iP 167 (fAld 0) := rfl
theorem k181_167 : lkp pt181 167 = iP 168 (fIld 3) := rfl
theorem k181_168 : lkp pt181 168 = iP 169 (fK (.inl 5)) := rfl
theorem k181_169 : lkp pt181 169 = iP 170 (f2I (fun x y => x + y)) := rfl
theorem k181_170 : lkp pt181 170 = iRI 171 qAI := rfl
theorem k181_171 : lkp pt181 171 = iP 172 (fAld 0) := rfl
theorem k181_172 : lkp pt181 172 = iP 173 (fIld 3) := rfl
theorem k181_173 : lkp pt181 173 = iP 175 (fK (.inl 6)) := rfl
theorem k181_175 : lkp pt181 175 = iP 176 (f2I (fun x y => x + y)) := rfl
theorem k181_176 : lkp pt181 176 = iRI 177 qAI := rfl
theorem k181_177 : lkp pt181 177 = iP 178 (fAld 0) := rfl
theorem k181_178 : lkp pt181 178 = iP 179 (fIld 3) := rfl
theorem k181_179 : lkp pt181 179 = iP 181 (fK (.inl 7)) := rfl
theorem k181_181 : lkp pt181 181 = iP 182 (f2I (fun x y => x + y)) := rfl
theorem k181_182 : lkp pt181 182 = iRI 183 qAI := rfl
theorem k181_183 : lkp pt181 183 = iCK 186 11 12 10 8 1 := rfl
theorem k181_186 : lkp pt181 186 = iP 187 (fAld 2) := rfl
theorem k181_187 : lkp pt181 187 = iP 188 (fAld 0) := rfl
theorem k181_188 : lkp pt181 188 = iP 189 (fIld 3) := rfl
theorem k181_189 : lkp pt181 189 = iP 190 (fK (.inl 1)) := rfl
theorem k181_190 : lkp pt181 190 = iP 191 (f2I (fun x y => x + y)) := rfl
theorem k181_191 : lkp pt181 191 = iRI 192 qAI := rfl
theorem k181_192 : lkp pt181 192 = iP 193 (fAld 0) := rfl
theorem k181_193 : lkp pt181 193 = iP 194 (fIld 3) := rfl
theorem k181_194 : lkp pt181 194 = iP 195 (fK (.inl 2)) := rfl
theorem k181_195 : lkp pt181 195 = iP 196 (f2I (fun x y => x + y)) := rfl
theorem k181_196 : lkp pt181 196 = iRI 197 qAI := rfl
theorem k181_197 : lkp pt181 197 = iP 198 (fAld 0) := rfl
theorem k181_198 : lkp pt181 198 = iP 199 (fIld 3) := rfl
theorem k181_199 : lkp pt181 199 = iP 200 (fK (.inl 3)) := rfl
theorem k181_200 : lkp pt181 200 = iP 201 (f2I (fun x y => x + y)) := rfl
theorem k181_201 : lkp pt181 201 = iRI 202 qAI := rfl
theorem k181_202 : lkp pt181 202 = iP 203 (fAld 0) := rfl
theorem k181_203 : lkp pt181 203 = iP 204 (fIld 3) := rfl
theorem k181_204 : lkp pt181 204 = iP 205 (fK (.inl 4)) := rfl
theorem k181_205 : lkp pt181 205 = iP 206 (f2I (fun x y => x + y)) := rfl
theorem k181_206 : lkp pt181 206 = iRI 207 qAI := rfl
theorem k181_207 : lkp pt181 207 = iP 208 (fAld 0) := rfl
theorem k181_208 : lkp pt181 208 = iP 209 (fIld 3) := rfl
theorem k181_209 : lkp pt181 209 = iP 210 (fK (.inl 5)) := rfl
theorem k181_210 : lkp pt181 210 = iP 211 (f2I (fun x y => x + y)) := rfl
theorem k181_211 : lkp pt181 211 = iRI 212 qAI := rfl
theorem k181_212 : lkp pt181 212 = iP 213 (fAld 0) := rfl
theorem k181_213 : lkp pt181 213 = iP 214 (fIld 3) := rfl
theorem k181_214 : lkp pt181 214 = iP 216 (fK (.inl 6)) := rfl
theorem k181_216 : lkp pt181 216 = iP 217 (f2I (fun x y => x + y)) := rfl
theorem k181_217 : lkp pt181 217 = iRI 218 qAI := rfl
theorem k181_218 : lkp pt181 218 = iP 219 (fAld 0) := rfl
theorem k181_219 : lkp pt181 219 = iP 220 (fIld 3) := rfl
theorem k181_220 : lkp pt181 220 = iP 222 (fK (.inl 7)) := rfl
theorem k181_222 : lkp pt181 222 = iP 223 (f2I (fun x y => x + y)) := rfl
theorem k181_223 : lkp pt181 223 = iRI 224 qAI := rfl
theorem k181_224 : lkp pt181 224 = iCK 227 12 129 8 8 1 := rfl
theorem k181_227 : lkp pt181 227 = iB 230 901 (b2 (fun x y => decide (x = y))) := rfl
theorem k181_230 : lkp pt181 230 = iP 231 (fK (.inl 0)) := rfl
theorem k181_231 : lkp pt181 231 = iRet rZ := rfl
theorem k181_232 : lkp pt181 232 = iP 233 (fAld 1) := rfl
theorem k181_233 : lkp pt181 233 = iP 234 (fAld 0) := rfl
theorem k181_234 : lkp pt181 234 = iP 235 (fIld 3) := rfl
theorem k181_235 : lkp pt181 235 = iP 236 (fK (.inl 1)) := rfl
theorem k181_236 : lkp pt181 236 = iP 237 (f2I (fun x y => x + y)) := rfl
set_option maxRecDepth 100000 in
theorem k181_237 : lkp pt181 237 = iRI 238 qAI := rfl
set_option maxRecDepth 100000 in
theorem k181_238 : lkp pt181 238 = iP 239 (fAld 0) := rfl
set_option maxRecDepth 100000 in
theorem k181_239 : lkp pt181 239 = iP 240 (fIld 3) := rfl
set_option maxRecDepth 100000 in
theorem k181_240 : lkp pt181 240 = iP 241 (fK (.inl 2)) := rfl
set_option maxRecDepth 100000 in
theorem k181_241 : lkp pt181 241 = iP 242 (f2I (fun x y => x + y)) := rfl
set_option maxRecDepth 100000 in
theorem k181_242 : lkp pt181 242 = iRI 243 qAI := rfl
set_option maxRecDepth 100000 in
theorem k181_243 : lkp pt181 243 = iCK 246 11 14 4 3 1 := rfl
set_option maxRecDepth 100000 in
theorem k181_246 : lkp pt181 246 = iP 247 (fAld 2) := rfl
set_option maxRecDepth 100000 in
theorem k181_247 : lkp pt181 247 = iP 248 (fAld 0) := rfl
set_option maxRecDepth 100000 in
theorem k181_248 : lkp pt181 248 = iP 249 (fIld 3) := rfl
set_option maxRecDepth 100000 in
theorem k181_249 : lkp pt181 249 = iP 250 (fK (.inl 1)) := rfl
set_option maxRecDepth 100000 in
theorem k181_250 : lkp pt181 250 = iP 251 (f2I (fun x y => x + y)) := rfl
set_option maxRecDepth 100000 in
theorem k181_251 : lkp pt181 251 = iRI 252 qAI := rfl
set_option maxRecDepth 100000 in
theorem k181_252 : lkp pt181 252 = iP 253 (fAld 0) := rfl
set_option maxRecDepth 100000 in
theorem k181_253 : lkp pt181 253 = iP 254 (fIld 3) := rfl
set_option maxRecDepth 100000 in
theorem k181_254 : lkp pt181 254 = iP 255 (fK (.inl 2)) := rfl
set_option maxRecDepth 100000 in
theorem k181_255 : lkp pt181 255 = iP 256 (f2I (fun x y => x + y)) := rfl
set_option maxRecDepth 100000 in
theorem k181_256 : lkp pt181 256 = iRI 257 qAI := rfl
set_option maxRecDepth 100000 in
theorem k181_257 : lkp pt181 257 = iCK 260 12 131 3 3 1 := rfl
set_option maxRecDepth 100000 in
theorem k181_260 : lkp pt181 260 = iB 263 901 (b2 (fun x y => decide (x = y))) := rfl
set_option maxRecDepth 100000 in
theorem k181_263 : lkp pt181 263 = iP 264 (fK (.inl 0)) := rfl
set_option maxRecDepth 100000 in
theorem k181_264 : lkp pt181 264 = iRet rZ := rfl
set_option maxRecDepth 100000 in
theorem k181_265 : lkp pt181 265 = iP 266 (fAld 1) := rfl
set_option maxRecDepth 100000 in
theorem k181_266 : lkp pt181 266 = iP 267 (fAld 0) := rfl
set_option maxRecDepth 100000 in
theorem k181_267 : lkp pt181 267 = iP 268 (fIld 3) := rfl
set_option maxRecDepth 100000 in
theorem k181_268 : lkp pt181 268 = iP 269 (fK (.inl 1)) := rfl
set_option maxRecDepth 100000 in
theorem k181_269 : lkp pt181 269 = iP 270 (f2I (fun x y => x + y)) := rfl
set_option maxRecDepth 100000 in
theorem k181_270 : lkp pt181 270 = iRI 271 qAI := rfl
set_option maxRecDepth 100000 in
theorem k181_271 : lkp pt181 271 = iCK 274 11 30 4 2 1 := rfl
set_option maxRecDepth 100000 in
theorem k181_274 : lkp pt181 274 = iP 275 (fAld 2) := rfl
set_option maxRecDepth 100000 in
theorem k181_275 : lkp pt181 275 = iP 276 (fAld 0) := rfl
set_option maxRecDepth 100000 in
theorem k181_276 : lkp pt181 276 = iP 277 (fIld 3) := rfl
set_option maxRecDepth 100000 in
theorem k181_277 : lkp pt181 277 = iP 278 (fK (.inl 1)) := rfl
set_option maxRecDepth 100000 in
theorem k181_278 : lkp pt181 278 = iP 279 (f2I (fun x y => x + y)) := rfl
set_option maxRecDepth 100000 in
theorem k181_279 : lkp pt181 279 = iRI 280 qAI := rfl
set_option maxRecDepth 100000 in
theorem k181_280 : lkp pt181 280 = iCK 283 12 134 2 2 1 := rfl
set_option maxRecDepth 100000 in
theorem k181_283 : lkp pt181 283 = iB 286 901 (b2 (fun x y => decide (x = y))) := rfl
set_option maxRecDepth 100000 in
theorem k181_286 : lkp pt181 286 = iP 287 (fK (.inl 0)) := rfl
set_option maxRecDepth 100000 in
theorem k181_287 : lkp pt181 287 = iRet rZ := rfl
set_option maxRecDepth 100000 in
theorem k181_288 : lkp pt181 288 = iP 289 (fAld 1) := rfl
set_option maxRecDepth 100000 in
theorem k181_289 : lkp pt181 289 = iP 290 (fAld 0) := rfl
set_option maxRecDepth 100000 in
theorem k181_290 : lkp pt181 290 = iP 291 (fIld 3) := rfl
set_option maxRecDepth 100000 in
theorem k181_291 : lkp pt181 291 = iP 292 (fK (.inl 1)) := rfl
set_option maxRecDepth 100000 in
theorem k181_292 : lkp pt181 292 = iP 293 (f2I (fun x y => x + y)) := rfl
set_option maxRecDepth 100000 in
theorem k181_293 : lkp pt181 293 = iRI 294 qAI := rfl
set_option maxRecDepth 100000 in
theorem k181_294 : lkp pt181 294 = iP 295 (fAld 0) := rfl
set_option maxRecDepth 100000 in
theorem k181_295 : lkp pt181 295 = iP 296 (fIld 3) := rfl
set_option maxRecDepth 100000 in
theorem k181_296 : lkp pt181 296 = iP 297 (fK (.inl 2)) := rfl
set_option maxRecDepth 100000 in
theorem k181_297 : lkp pt181 297 = iP 298 (f2I (fun x y => x + y)) := rfl
set_option maxRecDepth 100000 in
theorem k181_298 : lkp pt181 298 = iRI 299 qAI := rfl
set_option maxRecDepth 100000 in
theorem k181_299 : lkp pt181 299 = iCK 302 11 33 7 3 1 := rfl
set_option maxRecDepth 100000 in
theorem k181_302 : lkp pt181 302 = iP 303 (fAld 2) := rfl
set_option maxRecDepth 100000 in
theorem k181_303 : lkp pt181 303 = iP 304 (fAld 0) := rfl
set_option maxRecDepth 100000 in
theorem k181_304 : lkp pt181 304 = iP 305 (fIld 3) := rfl
set_option maxRecDepth 100000 in
theorem k181_305 : lkp pt181 305 = iP 306 (fK (.inl 1)) := rfl
set_option maxRecDepth 100000 in
theorem k181_306 : lkp pt181 306 = iP 307 (f2I (fun x y => x + y)) := rfl
set_option maxRecDepth 100000 in
theorem k181_307 : lkp pt181 307 = iRI 308 qAI := rfl
set_option maxRecDepth 100000 in
theorem k181_308 : lkp pt181 308 = iP 309 (fAld 0) := rfl
set_option maxRecDepth 100000 in
theorem k181_309 : lkp pt181 309 = iP 310 (fIld 3) := rfl
set_option maxRecDepth 100000 in
theorem k181_310 : lkp pt181 310 = iP 311 (fK (.inl 2)) := rfl
set_option maxRecDepth 100000 in
theorem k181_311 : lkp pt181 311 = iP 312 (f2I (fun x y => x + y)) := rfl
set_option maxRecDepth 100000 in
theorem k181_312 : lkp pt181 312 = iRI 313 qAI := rfl
set_option maxRecDepth 100000 in
theorem k181_313 : lkp pt181 313 = iCK 316 12 136 3 3 1 := rfl
set_option maxRecDepth 100000 in
theorem k181_316 : lkp pt181 316 = iB 319 901 (b2 (fun x y => decide (x = y))) := rfl
set_option maxRecDepth 100000 in
theorem k181_319 : lkp pt181 319 = iP 320 (fK (.inl 0)) := rfl
set_option maxRecDepth 100000 in
theorem k181_320 : lkp pt181 320 = iRet rZ := rfl
set_option maxRecDepth 100000 in
theorem k181_321 : lkp pt181 321 = iP 322 (fAld 1) := rfl
set_option maxRecDepth 100000 in
theorem k181_322 : lkp pt181 322 = iP 323 (fAld 0) := rfl
set_option maxRecDepth 100000 in
theorem k181_323 : lkp pt181 323 = iP 324 (fIld 3) := rfl
set_option maxRecDepth 100000 in
theorem k181_324 : lkp pt181 324 = iP 325 (fK (.inl 1)) := rfl
set_option maxRecDepth 100000 in
theorem k181_325 : lkp pt181 325 = iP 326 (f2I (fun x y => x + y)) := rfl
set_option maxRecDepth 100000 in
theorem k181_326 : lkp pt181 326 = iRI 327 qAI := rfl
set_option maxRecDepth 100000 in
theorem k181_327 : lkp pt181 327 = iCK 330 11 35 3 2 1 := rfl
set_option maxRecDepth 100000 in
theorem k181_330 : lkp pt181 330 = iP 331 (fAld 2) := rfl
set_option maxRecDepth 100000 in
theorem k181_331 : lkp pt181 331 = iP 332 (fAld 0) := rfl
set_option maxRecDepth 100000 in
theorem k181_332 : lkp pt181 332 = iP 333 (fIld 3) := rfl
set_option maxRecDepth 100000 in
theorem k181_333 : lkp pt181 333 = iP 334 (fK (.inl 1)) := rfl
set_option maxRecDepth 100000 in
theorem k181_334 : lkp pt181 334 = iP 335 (f2I (fun x y => x + y)) := rfl
set_option maxRecDepth 100000 in
theorem k181_335 : lkp pt181 335 = iRI 336 qAI := rfl
set_option maxRecDepth 100000 in
theorem k181_336 : lkp pt181 336 = iCK 339 12 137 2 2 1 := rfl
set_option maxRecDepth 100000 in
theorem k181_339 : lkp pt181 339 = iB 342 901 (b2 (fun x y => decide (x = y))) := rfl
set_option maxRecDepth 100000 in
theorem k181_342 : lkp pt181 342 = iP 343 (fK (.inl 0)) := rfl
set_option maxRecDepth 100000 in
theorem k181_343 : lkp pt181 343 = iRet rZ := rfl
set_option maxRecDepth 100000 in
theorem k181_344 : lkp pt181 344 = iP 345 (fAld 1) := rfl
set_option maxRecDepth 100000 in
theorem k181_345 : lkp pt181 345 = iP 346 (fAld 0) := rfl
set_option maxRecDepth 100000 in
theorem k181_346 : lkp pt181 346 = iP 347 (fIld 3) := rfl
set_option maxRecDepth 100000 in
theorem k181_347 : lkp pt181 347 = iP 348 (fK (.inl 1)) := rfl
set_option maxRecDepth 100000 in
theorem k181_348 : lkp pt181 348 = iP 349 (f2I (fun x y => x + y)) := rfl
set_option maxRecDepth 100000 in
theorem k181_349 : lkp pt181 349 = iRI 350 qAI := rfl
set_option maxRecDepth 100000 in
theorem k181_350 : lkp pt181 350 = iP 351 (fAld 0) := rfl
set_option maxRecDepth 100000 in
theorem k181_351 : lkp pt181 351 = iP 352 (fIld 3) := rfl
set_option maxRecDepth 100000 in
theorem k181_352 : lkp pt181 352 = iP 353 (fK (.inl 2)) := rfl
set_option maxRecDepth 100000 in
theorem k181_353 : lkp pt181 353 = iP 354 (f2I (fun x y => x + y)) := rfl
set_option maxRecDepth 100000 in
theorem k181_354 : lkp pt181 354 = iRI 355 qAI := rfl
set_option maxRecDepth 100000 in
theorem k181_355 : lkp pt181 355 = iCK 358 11 37 5 3 1 := rfl
set_option maxRecDepth 100000 in
theorem k181_358 : lkp pt181 358 = iP 359 (fAld 2) := rfl
set_option maxRecDepth 100000 in
theorem k181_359 : lkp pt181 359 = iP 360 (fAld 0) := rfl
set_option maxRecDepth 100000 in
theorem k181_360 : lkp pt181 360 = iP 361 (fIld 3) := rfl
set_option maxRecDepth 100000 in
theorem k181_361 : lkp pt181 361 = iP 362 (fK (.inl 1)) := rfl
set_option maxRecDepth 100000 in
theorem k181_362 : lkp pt181 362 = iP 363 (f2I (fun x y => x + y)) := rfl
set_option maxRecDepth 100000 in
theorem k181_363 : lkp pt181 363 = iRI 364 qAI := rfl
set_option maxRecDepth 100000 in
theorem k181_364 : lkp pt181 364 = iP 365 (fAld 0) := rfl
set_option maxRecDepth 100000 in
theorem k181_365 : lkp pt181 365 = iP 366 (fIld 3) := rfl
set_option maxRecDepth 100000 in
theorem k181_366 : lkp pt181 366 = iP 367 (fK (.inl 2)) := rfl
set_option maxRecDepth 100000 in
theorem k181_367 : lkp pt181 367 = iP 368 (f2I (fun x y => x + y)) := rfl
set_option maxRecDepth 100000 in
theorem k181_368 : lkp pt181 368 = iRI 369 qAI := rfl
set_option maxRecDepth 100000 in
theorem k181_369 : lkp pt181 369 = iCK 372 12 138 4 3 1 := rfl
set_option maxRecDepth 100000 in
theorem k181_372 : lkp pt181 372 = iB 375 901 (b2 (fun x y => decide (x = y))) := rfl
set_option maxRecDepth 100000 in
theorem k181_375 : lkp pt181 375 = iP 376 (fK (.inl 0)) := rfl
set_option maxRecDepth 100000 in
theorem k181_376 : lkp pt181 376 = iRet rZ := rfl
set_option maxRecDepth 100000 in
theorem k181_377 : lkp pt181 377 = iP 378 (fAld 1) := rfl
set_option maxRecDepth 100000 in
theorem k181_378 : lkp pt181 378 = iP 379 (fAld 0) := rfl
set_option maxRecDepth 100000 in
theorem k181_379 : lkp pt181 379 = iP 380 (fIld 3) := rfl
set_option maxRecDepth 100000 in
theorem k181_380 : lkp pt181 380 = iP 381 (fK (.inl 1)) := rfl
set_option maxRecDepth 100000 in
theorem k181_381 : lkp pt181 381 = iP 382 (f2I (fun x y => x + y)) := rfl
set_option maxRecDepth 100000 in
theorem k181_382 : lkp pt181 382 = iRI 383 qAI := rfl
set_option maxRecDepth 100000 in
theorem k181_383 : lkp pt181 383 = iCK 386 11 42 3 2 1 := rfl
set_option maxRecDepth 100000 in
theorem k181_386 : lkp pt181 386 = iP 387 (fAld 2) := rfl
set_option maxRecDepth 100000 in
theorem k181_387 : lkp pt181 387 = iP 388 (fAld 0) := rfl
set_option maxRecDepth 100000 in
theorem k181_388 : lkp pt181 388 = iP 389 (fIld 3) := rfl
set_option maxRecDepth 100000 in
theorem k181_389 : lkp pt181 389 = iP 390 (fK (.inl 1)) := rfl
set_option maxRecDepth 100000 in
theorem k181_390 : lkp pt181 390 = iP 391 (f2I (fun x y => x + y)) := rfl
set_option maxRecDepth 100000 in
theorem k181_391 : lkp pt181 391 = iRI 392 qAI := rfl
set_option maxRecDepth 100000 in
theorem k181_392 : lkp pt181 392 = iCK 395 12 139 2 2 1 := rfl
set_option maxRecDepth 100000 in
theorem k181_395 : lkp pt181 395 = iB 398 901 (b2 (fun x y => decide (x = y))) := rfl
set_option maxRecDepth 100000 in
theorem k181_398 : lkp pt181 398 = iP 399 (fK (.inl 0)) := rfl
set_option maxRecDepth 100000 in
theorem k181_399 : lkp pt181 399 = iRet rZ := rfl
set_option maxRecDepth 100000 in
theorem k181_400 : lkp pt181 400 = iP 401 (fAld 1) := rfl
set_option maxRecDepth 100000 in
theorem k181_401 : lkp pt181 401 = iP 402 (fAld 0) := rfl
set_option maxRecDepth 100000 in
theorem k181_402 : lkp pt181 402 = iP 403 (fIld 3) := rfl
set_option maxRecDepth 100000 in
theorem k181_403 : lkp pt181 403 = iP 404 (fK (.inl 1)) := rfl
set_option maxRecDepth 100000 in
theorem k181_404 : lkp pt181 404 = iP 405 (f2I (fun x y => x + y)) := rfl
set_option maxRecDepth 100000 in
theorem k181_405 : lkp pt181 405 = iRI 406 qAI := rfl
set_option maxRecDepth 100000 in
theorem k181_406 : lkp pt181 406 = iP 407 (fAld 0) := rfl
set_option maxRecDepth 100000 in
theorem k181_407 : lkp pt181 407 = iP 408 (fIld 3) := rfl
set_option maxRecDepth 100000 in
theorem k181_408 : lkp pt181 408 = iP 409 (fK (.inl 2)) := rfl
set_option maxRecDepth 100000 in
theorem k181_409 : lkp pt181 409 = iP 410 (f2I (fun x y => x + y)) := rfl
set_option maxRecDepth 100000 in
theorem k181_410 : lkp pt181 410 = iRI 411 qAI := rfl
set_option maxRecDepth 100000 in
theorem k181_411 : lkp pt181 411 = iCK 414 11 44 4 3 1 := rfl
set_option maxRecDepth 100000 in
theorem k181_414 : lkp pt181 414 = iP 415 (fAld 2) := rfl
set_option maxRecDepth 100000 in
theorem k181_415 : lkp pt181 415 = iP 416 (fAld 0) := rfl
set_option maxRecDepth 100000 in
theorem k181_416 : lkp pt181 416 = iP 417 (fIld 3) := rfl
set_option maxRecDepth 100000 in
theorem k181_417 : lkp pt181 417 = iP 418 (fK (.inl 1)) := rfl
set_option maxRecDepth 100000 in
theorem k181_418 : lkp pt181 418 = iP 419 (f2I (fun x y => x + y)) := rfl
set_option maxRecDepth 100000 in
theorem k181_419 : lkp pt181 419 = iRI 420 qAI := rfl
set_option maxRecDepth 100000 in
theorem k181_420 : lkp pt181 420 = iP 421 (fAld 0) := rfl
set_option maxRecDepth 100000 in
theorem k181_421 : lkp pt181 421 = iP 422 (fIld 3) := rfl
set_option maxRecDepth 100000 in
theorem k181_422 : lkp pt181 422 = iP 423 (fK (.inl 2)) := rfl
set_option maxRecDepth 100000 in
theorem k181_423 : lkp pt181 423 = iP 424 (f2I (fun x y => x + y)) := rfl
set_option maxRecDepth 100000 in
theorem k181_424 : lkp pt181 424 = iRI 425 qAI := rfl
set_option maxRecDepth 100000 in
theorem k181_425 : lkp pt181 425 = iCK 428 12 140 3 3 1 := rfl
set_option maxRecDepth 100000 in
theorem k181_428 : lkp pt181 428 = iB 431 901 (b2 (fun x y => decide (x = y))) := rfl
set_option maxRecDepth 100000 in
theorem k181_431 : lkp pt181 431 = iP 432 (fK (.inl 0)) := rfl
set_option maxRecDepth 100000 in
theorem k181_432 : lkp pt181 432 = iRet rZ := rfl
set_option maxRecDepth 100000 in
theorem k181_433 : lkp pt181 433 = iP 434 (fAld 1) := rfl
set_option maxRecDepth 100000 in
theorem k181_434 : lkp pt181 434 = iP 435 (fAld 0) := rfl
set_option maxRecDepth 100000 in
theorem k181_435 : lkp pt181 435 = iP 436 (fIld 3) := rfl
set_option maxRecDepth 100000 in
theorem k181_436 : lkp pt181 436 = iP 437 (fK (.inl 1)) := rfl
set_option maxRecDepth 100000 in
theorem k181_437 : lkp pt181 437 = iP 438 (f2I (fun x y => x + y)) := rfl
set_option maxRecDepth 100000 in
theorem k181_438 : lkp pt181 438 = iRI 439 qAI := rfl
set_option maxRecDepth 100000 in
theorem k181_439 : lkp pt181 439 = iP 440 (fAld 0) := rfl
set_option maxRecDepth 100000 in
theorem k181_440 : lkp pt181 440 = iP 441 (fIld 3) := rfl
set_option maxRecDepth 100000 in
theorem k181_441 : lkp pt181 441 = iP 442 (fK (.inl 2)) := rfl
set_option maxRecDepth 100000 in
theorem k181_442 : lkp pt181 442 = iP 443 (f2I (fun x y => x + y)) := rfl
set_option maxRecDepth 100000 in
theorem k181_443 : lkp pt181 443 = iRI 444 qAI := rfl
set_option maxRecDepth 100000 in
theorem k181_444 : lkp pt181 444 = iP 445 (fAld 0) := rfl
set_option maxRecDepth 100000 in
theorem k181_445 : lkp pt181 445 = iP 446 (fIld 3) := rfl
set_option maxRecDepth 100000 in
theorem k181_446 : lkp pt181 446 = iP 447 (fK (.inl 3)) := rfl
set_option maxRecDepth 100000 in
theorem k181_447 : lkp pt181 447 = iP 448 (f2I (fun x y => x + y)) := rfl
set_option maxRecDepth 100000 in
theorem k181_448 : lkp pt181 448 = iRI 449 qAI := rfl
set_option maxRecDepth 100000 in
theorem k181_449 : lkp pt181 449 = iCK 452 11 46 5 4 1 := rfl
set_option maxRecDepth 100000 in
theorem k181_452 : lkp pt181 452 = iP 453 (fAld 2) := rfl
set_option maxRecDepth 100000 in
theorem k181_453 : lkp pt181 453 = iP 454 (fAld 0) := rfl
set_option maxRecDepth 100000 in
theorem k181_454 : lkp pt181 454 = iP 455 (fIld 3) := rfl
set_option maxRecDepth 100000 in
theorem k181_455 : lkp pt181 455 = iP 456 (fK (.inl 1)) := rfl
set_option maxRecDepth 100000 in
theorem k181_456 : lkp pt181 456 = iP 457 (f2I (fun x y => x + y)) := rfl
set_option maxRecDepth 100000 in
theorem k181_457 : lkp pt181 457 = iRI 458 qAI := rfl
set_option maxRecDepth 100000 in
theorem k181_458 : lkp pt181 458 = iP 459 (fAld 0) := rfl
set_option maxRecDepth 100000 in
theorem k181_459 : lkp pt181 459 = iP 460 (fIld 3) := rfl
set_option maxRecDepth 100000 in
theorem k181_460 : lkp pt181 460 = iP 461 (fK (.inl 2)) := rfl
set_option maxRecDepth 100000 in
theorem k181_461 : lkp pt181 461 = iP 462 (f2I (fun x y => x + y)) := rfl
set_option maxRecDepth 100000 in
theorem k181_462 : lkp pt181 462 = iRI 463 qAI := rfl
set_option maxRecDepth 100000 in
theorem k181_463 : lkp pt181 463 = iP 464 (fAld 0) := rfl
set_option maxRecDepth 100000 in
theorem k181_464 : lkp pt181 464 = iP 465 (fIld 3) := rfl
set_option maxRecDepth 100000 in
theorem k181_465 : lkp pt181 465 = iP 466 (fK (.inl 3)) := rfl
set_option maxRecDepth 100000 in
theorem k181_466 : lkp pt181 466 = iP 467 (f2I (fun x y => x + y)) := rfl
set_option maxRecDepth 100000 in
theorem k181_467 : lkp pt181 467 = iRI 468 qAI := rfl
set_option maxRecDepth 100000 in
theorem k181_468 : lkp pt181 468 = iCK 471 12 142 5 4 1 := rfl
set_option maxRecDepth 100000 in
theorem k181_471 : lkp pt181 471 = iB 474 901 (b2 (fun x y => decide (x = y))) := rfl
set_option maxRecDepth 100000 in
theorem k181_474 : lkp pt181 474 = iP 475 (fK (.inl 0)) := rfl
set_option maxRecDepth 100000 in
theorem k181_475 : lkp pt181 475 = iRet rZ := rfl
set_option maxRecDepth 100000 in
theorem k181_476 : lkp pt181 476 = iP 477 (fAld 1) := rfl
set_option maxRecDepth 100000 in
theorem k181_477 : lkp pt181 477 = iP 478 (fAld 0) := rfl
set_option maxRecDepth 100000 in
theorem k181_478 : lkp pt181 478 = iP 479 (fIld 3) := rfl
set_option maxRecDepth 100000 in
theorem k181_479 : lkp pt181 479 = iP 480 (fK (.inl 1)) := rfl
set_option maxRecDepth 100000 in
theorem k181_480 : lkp pt181 480 = iP 481 (f2I (fun x y => x + y)) := rfl
set_option maxRecDepth 100000 in
theorem k181_481 : lkp pt181 481 = iRI 482 qAI := rfl
set_option maxRecDepth 100000 in
theorem k181_482 : lkp pt181 482 = iP 483 (fAld 0) := rfl
set_option maxRecDepth 100000 in
theorem k181_483 : lkp pt181 483 = iP 484 (fIld 3) := rfl
set_option maxRecDepth 100000 in
theorem k181_484 : lkp pt181 484 = iP 485 (fK (.inl 2)) := rfl
set_option maxRecDepth 100000 in
theorem k181_485 : lkp pt181 485 = iP 486 (f2I (fun x y => x + y)) := rfl
set_option maxRecDepth 100000 in
theorem k181_486 : lkp pt181 486 = iRI 487 qAI := rfl
set_option maxRecDepth 100000 in
theorem k181_487 : lkp pt181 487 = iP 488 (fAld 0) := rfl
set_option maxRecDepth 100000 in
theorem k181_488 : lkp pt181 488 = iP 489 (fIld 3) := rfl
set_option maxRecDepth 100000 in
theorem k181_489 : lkp pt181 489 = iP 490 (fK (.inl 3)) := rfl
set_option maxRecDepth 100000 in
theorem k181_490 : lkp pt181 490 = iP 491 (f2I (fun x y => x + y)) := rfl
set_option maxRecDepth 100000 in
theorem k181_491 : lkp pt181 491 = iRI 492 qAI := rfl
set_option maxRecDepth 100000 in
theorem k181_492 : lkp pt181 492 = iCK 495 11 49 6 4 1 := rfl
set_option maxRecDepth 100000 in
theorem k181_495 : lkp pt181 495 = iP 496 (fAld 2) := rfl
set_option maxRecDepth 100000 in
theorem k181_496 : lkp pt181 496 = iP 497 (fAld 0) := rfl
set_option maxRecDepth 100000 in
theorem k181_497 : lkp pt181 497 = iP 498 (fIld 3) := rfl
set_option maxRecDepth 100000 in
theorem k181_498 : lkp pt181 498 = iP 499 (fK (.inl 1)) := rfl
set_option maxRecDepth 100000 in
theorem k181_499 : lkp pt181 499 = iP 500 (f2I (fun x y => x + y)) := rfl
set_option maxRecDepth 100000 in
theorem k181_500 : lkp pt181 500 = iRI 501 qAI := rfl
set_option maxRecDepth 100000 in
theorem k181_501 : lkp pt181 501 = iP 502 (fAld 0) := rfl
set_option maxRecDepth 100000 in
theorem k181_502 : lkp pt181 502 = iP 503 (fIld 3) := rfl
set_option maxRecDepth 100000 in
theorem k181_503 : lkp pt181 503 = iP 504 (fK (.inl 2)) := rfl
set_option maxRecDepth 100000 in
theorem k181_504 : lkp pt181 504 = iP 505 (f2I (fun x y => x + y)) := rfl
set_option maxRecDepth 100000 in
theorem k181_505 : lkp pt181 505 = iRI 506 qAI := rfl
set_option maxRecDepth 100000 in
theorem k181_506 : lkp pt181 506 = iP 507 (fAld 0) := rfl
set_option maxRecDepth 100000 in
theorem k181_507 : lkp pt181 507 = iP 508 (fIld 3) := rfl
set_option maxRecDepth 100000 in
theorem k181_508 : lkp pt181 508 = iP 509 (fK (.inl 3)) := rfl
set_option maxRecDepth 100000 in
theorem k181_509 : lkp pt181 509 = iP 510 (f2I (fun x y => x + y)) := rfl
set_option maxRecDepth 100000 in
theorem k181_510 : lkp pt181 510 = iRI 511 qAI := rfl
set_option maxRecDepth 100000 in
theorem k181_511 : lkp pt181 511 = iCK 514 12 144 4 4 1 := rfl
set_option maxRecDepth 100000 in
theorem k181_514 : lkp pt181 514 = iB 517 901 (b2 (fun x y => decide (x = y))) := rfl
set_option maxRecDepth 100000 in
theorem k181_517 : lkp pt181 517 = iP 518 (fK (.inl 0)) := rfl
set_option maxRecDepth 100000 in
theorem k181_518 : lkp pt181 518 = iRet rZ := rfl
set_option maxRecDepth 100000 in
theorem k181_519 : lkp pt181 519 = iP 520 (fAld 1) := rfl
set_option maxRecDepth 100000 in
theorem k181_520 : lkp pt181 520 = iP 521 (fAld 0) := rfl
set_option maxRecDepth 100000 in
theorem k181_521 : lkp pt181 521 = iP 522 (fIld 3) := rfl
set_option maxRecDepth 100000 in
theorem k181_522 : lkp pt181 522 = iP 523 (fK (.inl 1)) := rfl
set_option maxRecDepth 100000 in
theorem k181_523 : lkp pt181 523 = iP 524 (f2I (fun x y => x + y)) := rfl
set_option maxRecDepth 100000 in
theorem k181_524 : lkp pt181 524 = iRI 525 qAI := rfl
set_option maxRecDepth 100000 in
theorem k181_525 : lkp pt181 525 = iP 526 (fAld 0) := rfl
set_option maxRecDepth 100000 in
theorem k181_526 : lkp pt181 526 = iP 527 (fIld 3) := rfl
set_option maxRecDepth 100000 in
theorem k181_527 : lkp pt181 527 = iP 528 (fK (.inl 2)) := rfl
set_option maxRecDepth 100000 in
theorem k181_528 : lkp pt181 528 = iP 529 (f2I (fun x y => x + y)) := rfl
set_option maxRecDepth 100000 in
theorem k181_529 : lkp pt181 529 = iRI 530 qAI := rfl
set_option maxRecDepth 100000 in
theorem k181_530 : lkp pt181 530 = iP 531 (fAld 0) := rfl
set_option maxRecDepth 100000 in
theorem k181_531 : lkp pt181 531 = iP 532 (fIld 3) := rfl
set_option maxRecDepth 100000 in
theorem k181_532 : lkp pt181 532 = iP 533 (fK (.inl 3)) := rfl
set_option maxRecDepth 100000 in
theorem k181_533 : lkp pt181 533 = iP 534 (f2I (fun x y => x + y)) := rfl
set_option maxRecDepth 100000 in
theorem k181_534 : lkp pt181 534 = iRI 535 qAI := rfl
set_option maxRecDepth 100000 in
theorem k181_535 : lkp pt181 535 = iCK 538 11 50 5 4 1 := rfl
set_option maxRecDepth 100000 in
theorem k181_538 : lkp pt181 538 = iP 539 (fAld 2) := rfl
set_option maxRecDepth 100000 in
theorem k181_539 : lkp pt181 539 = iP 540 (fAld 0) := rfl
set_option maxRecDepth 100000 in
theorem k181_540 : lkp pt181 540 = iP 541 (fIld 3) := rfl
set_option maxRecDepth 100000 in
theorem k181_541 : lkp pt181 541 = iP 542 (fK (.inl 1)) := rfl
set_option maxRecDepth 100000 in
theorem k181_542 : lkp pt181 542 = iP 543 (f2I (fun x y => x + y)) := rfl
set_option maxRecDepth 100000 in
theorem k181_543 : lkp pt181 543 = iRI 544 qAI := rfl
set_option maxRecDepth 100000 in
theorem k181_544 : lkp pt181 544 = iP 545 (fAld 0) := rfl
set_option maxRecDepth 100000 in
theorem k181_545 : lkp pt181 545 = iP 546 (fIld 3) := rfl
set_option maxRecDepth 100000 in
theorem k181_546 : lkp pt181 546 = iP 547 (fK (.inl 2)) := rfl
set_option maxRecDepth 100000 in
theorem k181_547 : lkp pt181 547 = iP 548 (f2I (fun x y => x + y)) := rfl
set_option maxRecDepth 100000 in
theorem k181_548 : lkp pt181 548 = iRI 549 qAI := rfl
set_option maxRecDepth 100000 in
theorem k181_549 : lkp pt181 549 = iP 550 (fAld 0) := rfl
set_option maxRecDepth 100000 in
theorem k181_550 : lkp pt181 550 = iP 551 (fIld 3) := rfl
set_option maxRecDepth 100000 in
theorem k181_551 : lkp pt181 551 = iP 552 (fK (.inl 3)) := rfl
set_option maxRecDepth 100000 in
theorem k181_552 : lkp pt181 552 = iP 553 (f2I (fun x y => x + y)) := rfl
set_option maxRecDepth 100000 in
theorem k181_553 : lkp pt181 553 = iRI 554 qAI := rfl
set_option maxRecDepth 100000 in
theorem k181_554 : lkp pt181 554 = iCK 557 12 145 4 4 1 := rfl
set_option maxRecDepth 100000 in
theorem k181_557 : lkp pt181 557 = iB 560 901 (b2 (fun x y => decide (x = y))) := rfl
set_option maxRecDepth 100000 in
theorem k181_560 : lkp pt181 560 = iP 561 (fK (.inl 0)) := rfl
set_option maxRecDepth 100000 in
theorem k181_561 : lkp pt181 561 = iRet rZ := rfl
set_option maxRecDepth 100000 in
theorem k181_562 : lkp pt181 562 = iP 563 (fAld 1) := rfl
set_option maxRecDepth 100000 in
theorem k181_563 : lkp pt181 563 = iP 564 (fAld 0) := rfl
set_option maxRecDepth 100000 in
theorem k181_564 : lkp pt181 564 = iP 565 (fIld 3) := rfl
set_option maxRecDepth 100000 in
theorem k181_565 : lkp pt181 565 = iP 566 (fK (.inl 1)) := rfl
set_option maxRecDepth 100000 in
theorem k181_566 : lkp pt181 566 = iP 567 (f2I (fun x y => x + y)) := rfl
set_option maxRecDepth 100000 in
theorem k181_567 : lkp pt181 567 = iRI 568 qAI := rfl
set_option maxRecDepth 100000 in
theorem k181_568 : lkp pt181 568 = iCK 571 11 63 2 2 1 := rfl
set_option maxRecDepth 100000 in
theorem k181_571 : lkp pt181 571 = iP 572 (fAld 2) := rfl
set_option maxRecDepth 100000 in
theorem k181_572 : lkp pt181 572 = iP 573 (fAld 0) := rfl
set_option maxRecDepth 100000 in
theorem k181_573 : lkp pt181 573 = iP 574 (fIld 3) := rfl
set_option maxRecDepth 100000 in
theorem k181_574 : lkp pt181 574 = iP 575 (fK (.inl 1)) := rfl
set_option maxRecDepth 100000 in
theorem k181_575 : lkp pt181 575 = iP 576 (f2I (fun x y => x + y)) := rfl
set_option maxRecDepth 100000 in
theorem k181_576 : lkp pt181 576 = iRI 577 qAI := rfl
set_option maxRecDepth 100000 in
theorem k181_577 : lkp pt181 577 = iCK 580 12 150 2 2 1 := rfl
set_option maxRecDepth 100000 in
theorem k181_580 : lkp pt181 580 = iB 583 901 (b2 (fun x y => decide (x = y))) := rfl
set_option maxRecDepth 100000 in
theorem k181_583 : lkp pt181 583 = iP 584 (fK (.inl 0)) := rfl
set_option maxRecDepth 100000 in
theorem k181_584 : lkp pt181 584 = iRet rZ := rfl
set_option maxRecDepth 100000 in
theorem k181_585 : lkp pt181 585 = iP 586 (fAld 1) := rfl
set_option maxRecDepth 100000 in
theorem k181_586 : lkp pt181 586 = iP 587 (fAld 0) := rfl
set_option maxRecDepth 100000 in
theorem k181_587 : lkp pt181 587 = iP 588 (fIld 3) := rfl
set_option maxRecDepth 100000 in
theorem k181_588 : lkp pt181 588 = iP 589 (fK (.inl 1)) := rfl
set_option maxRecDepth 100000 in
theorem k181_589 : lkp pt181 589 = iP 590 (f2I (fun x y => x + y)) := rfl
set_option maxRecDepth 100000 in
theorem k181_590 : lkp pt181 590 = iRI 591 qAI := rfl
set_option maxRecDepth 100000 in
theorem k181_591 : lkp pt181 591 = iP 592 (fAld 0) := rfl
set_option maxRecDepth 100000 in
theorem k181_592 : lkp pt181 592 = iP 593 (fIld 3) := rfl
set_option maxRecDepth 100000 in
theorem k181_593 : lkp pt181 593 = iP 594 (fK (.inl 2)) := rfl
set_option maxRecDepth 100000 in
theorem k181_594 : lkp pt181 594 = iP 595 (f2I (fun x y => x + y)) := rfl
set_option maxRecDepth 100000 in
theorem k181_595 : lkp pt181 595 = iRI 596 qAI := rfl
set_option maxRecDepth 100000 in
theorem k181_596 : lkp pt181 596 = iCK 599 11 65 5 3 1 := rfl
set_option maxRecDepth 100000 in
theorem k181_599 : lkp pt181 599 = iP 600 (fAld 2) := rfl
set_option maxRecDepth 100000 in
theorem k181_600 : lkp pt181 600 = iP 601 (fAld 0) := rfl
set_option maxRecDepth 100000 in
theorem k181_601 : lkp pt181 601 = iP 602 (fIld 3) := rfl
set_option maxRecDepth 100000 in
theorem k181_602 : lkp pt181 602 = iP 603 (fK (.inl 1)) := rfl
set_option maxRecDepth 100000 in
theorem k181_603 : lkp pt181 603 = iP 604 (f2I (fun x y => x + y)) := rfl
set_option maxRecDepth 100000 in
theorem k181_604 : lkp pt181 604 = iRI 605 qAI := rfl
set_option maxRecDepth 100000 in
theorem k181_605 : lkp pt181 605 = iP 606 (fAld 0) := rfl
set_option maxRecDepth 100000 in
theorem k181_606 : lkp pt181 606 = iP 607 (fIld 3) := rfl
set_option maxRecDepth 100000 in
theorem k181_607 : lkp pt181 607 = iP 608 (fK (.inl 2)) := rfl
set_option maxRecDepth 100000 in
theorem k181_608 : lkp pt181 608 = iP 609 (f2I (fun x y => x + y)) := rfl
set_option maxRecDepth 100000 in
theorem k181_609 : lkp pt181 609 = iRI 610 qAI := rfl
set_option maxRecDepth 100000 in
theorem k181_610 : lkp pt181 610 = iCK 613 12 151 4 3 1 := rfl
set_option maxRecDepth 100000 in
theorem k181_613 : lkp pt181 613 = iB 616 901 (b2 (fun x y => decide (x = y))) := rfl
set_option maxRecDepth 100000 in
theorem k181_616 : lkp pt181 616 = iP 617 (fK (.inl 0)) := rfl
set_option maxRecDepth 100000 in
theorem k181_617 : lkp pt181 617 = iRet rZ := rfl
set_option maxRecDepth 100000 in
theorem k181_618 : lkp pt181 618 = iP 619 (fAld 1) := rfl
set_option maxRecDepth 100000 in
theorem k181_619 : lkp pt181 619 = iP 620 (fAld 0) := rfl
set_option maxRecDepth 100000 in
theorem k181_620 : lkp pt181 620 = iP 621 (fIld 3) := rfl
set_option maxRecDepth 100000 in
theorem k181_621 : lkp pt181 621 = iP 622 (fK (.inl 1)) := rfl
set_option maxRecDepth 100000 in
theorem k181_622 : lkp pt181 622 = iP 623 (f2I (fun x y => x + y)) := rfl
set_option maxRecDepth 100000 in
theorem k181_623 : lkp pt181 623 = iRI 624 qAI := rfl
set_option maxRecDepth 100000 in
theorem k181_624 : lkp pt181 624 = iP 625 (fAld 0) := rfl
set_option maxRecDepth 100000 in
theorem k181_625 : lkp pt181 625 = iP 626 (fIld 3) := rfl
set_option maxRecDepth 100000 in
theorem k181_626 : lkp pt181 626 = iP 627 (fK (.inl 2)) := rfl
set_option maxRecDepth 100000 in
theorem k181_627 : lkp pt181 627 = iP 628 (f2I (fun x y => x + y)) := rfl
set_option maxRecDepth 100000 in
theorem k181_628 : lkp pt181 628 = iRI 629 qAI := rfl
set_option maxRecDepth 100000 in
theorem k181_629 : lkp pt181 629 = iP 630 (fAld 0) := rfl
set_option maxRecDepth 100000 in
theorem k181_630 : lkp pt181 630 = iP 631 (fIld 3) := rfl
set_option maxRecDepth 100000 in
theorem k181_631 : lkp pt181 631 = iP 632 (fK (.inl 3)) := rfl
set_option maxRecDepth 100000 in
theorem k181_632 : lkp pt181 632 = iP 633 (f2I (fun x y => x + y)) := rfl
set_option maxRecDepth 100000 in
theorem k181_633 : lkp pt181 633 = iRI 634 qAI := rfl
set_option maxRecDepth 100000 in
theorem k181_634 : lkp pt181 634 = iP 635 (fAld 0) := rfl
set_option maxRecDepth 100000 in
theorem k181_635 : lkp pt181 635 = iP 636 (fIld 3) := rfl
set_option maxRecDepth 100000 in
theorem k181_636 : lkp pt181 636 = iP 637 (fK (.inl 4)) := rfl
set_option maxRecDepth 100000 in
theorem k181_637 : lkp pt181 637 = iP 638 (f2I (fun x y => x + y)) := rfl
set_option maxRecDepth 100000 in
theorem k181_638 : lkp pt181 638 = iRI 639 qAI := rfl
set_option maxRecDepth 100000 in
theorem k181_639 : lkp pt181 639 = iCK 642 11 97 10 5 2 := rfl
set_option maxRecDepth 100000 in
theorem k181_642 : lkp pt181 642 = iP 643 (fAld 2) := rfl
set_option maxRecDepth 100000 in
theorem k181_643 : lkp pt181 643 = iP 644 (fAld 0) := rfl
set_option maxRecDepth 100000 in
theorem k181_644 : lkp pt181 644 = iP 645 (fIld 3) := rfl
set_option maxRecDepth 100000 in
theorem k181_645 : lkp pt181 645 = iP 646 (fK (.inl 1)) := rfl
set_option maxRecDepth 100000 in
theorem k181_646 : lkp pt181 646 = iP 647 (f2I (fun x y => x + y)) := rfl
set_option maxRecDepth 100000 in
theorem k181_647 : lkp pt181 647 = iRI 648 qAI := rfl
set_option maxRecDepth 100000 in
theorem k181_648 : lkp pt181 648 = iP 649 (fAld 0) := rfl
set_option maxRecDepth 100000 in
theorem k181_649 : lkp pt181 649 = iP 650 (fIld 3) := rfl
set_option maxRecDepth 100000 in
theorem k181_650 : lkp pt181 650 = iP 651 (fK (.inl 2)) := rfl
set_option maxRecDepth 100000 in
theorem k181_651 : lkp pt181 651 = iP 652 (f2I (fun x y => x + y)) := rfl
set_option maxRecDepth 100000 in
theorem k181_652 : lkp pt181 652 = iRI 653 qAI := rfl
set_option maxRecDepth 100000 in
theorem k181_653 : lkp pt181 653 = iP 654 (fAld 0) := rfl
set_option maxRecDepth 100000 in
theorem k181_654 : lkp pt181 654 = iP 655 (fIld 3) := rfl
set_option maxRecDepth 100000 in
theorem k181_655 : lkp pt181 655 = iP 656 (fK (.inl 3)) := rfl
set_option maxRecDepth 100000 in
theorem k181_656 : lkp pt181 656 = iP 657 (f2I (fun x y => x + y)) := rfl
set_option maxRecDepth 100000 in
theorem k181_657 : lkp pt181 657 = iRI 658 qAI := rfl
set_option maxRecDepth 100000 in
theorem k181_658 : lkp pt181 658 = iP 659 (fAld 0) := rfl
set_option maxRecDepth 100000 in
theorem k181_659 : lkp pt181 659 = iP 660 (fIld 3) := rfl
set_option maxRecDepth 100000 in
theorem k181_660 : lkp pt181 660 = iP 661 (fK (.inl 4)) := rfl
set_option maxRecDepth 100000 in
theorem k181_661 : lkp pt181 661 = iP 662 (f2I (fun x y => x + y)) := rfl
set_option maxRecDepth 100000 in
theorem k181_662 : lkp pt181 662 = iRI 663 qAI := rfl
set_option maxRecDepth 100000 in
theorem k181_663 : lkp pt181 663 = iCK 666 12 165 13 5 2 := rfl
set_option maxRecDepth 100000 in
theorem k181_666 : lkp pt181 666 = iP 667 fLcmp := rfl
set_option maxRecDepth 100000 in
theorem k181_667 : lkp pt181 667 = iB 670 901 (b1 (fun x => decide (x = 0))) := rfl
set_option maxRecDepth 100000 in
theorem k181_670 : lkp pt181 670 = iP 671 (fK (.inl 0)) := rfl
set_option maxRecDepth 100000 in
theorem k181_671 : lkp pt181 671 = iRet rZ := rfl
set_option maxRecDepth 100000 in
theorem k181_672 : lkp pt181 672 = iP 673 (fAld 1) := rfl
set_option maxRecDepth 100000 in
theorem k181_673 : lkp pt181 673 = iP 674 (fAld 0) := rfl
set_option maxRecDepth 100000 in
theorem k181_674 : lkp pt181 674 = iP 675 (fIld 3) := rfl
set_option maxRecDepth 100000 in
theorem k181_675 : lkp pt181 675 = iP 676 (fK (.inl 1)) := rfl
set_option maxRecDepth 100000 in
theorem k181_676 : lkp pt181 676 = iP 677 (f2I (fun x y => x + y)) := rfl
set_option maxRecDepth 100000 in
theorem k181_677 : lkp pt181 677 = iRI 678 qAI := rfl
set_option maxRecDepth 100000 in
theorem k181_678 : lkp pt181 678 = iP 679 (fAld 0) := rfl
set_option maxRecDepth 100000 in
theorem k181_679 : lkp pt181 679 = iP 680 (fIld 3) := rfl
set_option maxRecDepth 100000 in
theorem k181_680 : lkp pt181 680 = iP 681 (fK (.inl 2)) := rfl
set_option maxRecDepth 100000 in
theorem k181_681 : lkp pt181 681 = iP 682 (f2I (fun x y => x + y)) := rfl
set_option maxRecDepth 100000 in
theorem k181_682 : lkp pt181 682 = iRI 683 qAI := rfl
set_option maxRecDepth 100000 in
theorem k181_683 : lkp pt181 683 = iP 684 (fAld 0) := rfl
set_option maxRecDepth 100000 in
theorem k181_684 : lkp pt181 684 = iP 685 (fIld 3) := rfl
set_option maxRecDepth 100000 in
theorem k181_685 : lkp pt181 685 = iP 686 (fK (.inl 3)) := rfl
set_option maxRecDepth 100000 in
theorem k181_686 : lkp pt181 686 = iP 687 (f2I (fun x y => x + y)) := rfl
set_option maxRecDepth 100000 in
theorem k181_687 : lkp pt181 687 = iRI 688 qAI := rfl
set_option maxRecDepth 100000 in
theorem k181_688 : lkp pt181 688 = iP 689 (fAld 0) := rfl
set_option maxRecDepth 100000 in
theorem k181_689 : lkp pt181 689 = iP 690 (fIld 3) := rfl
set_option maxRecDepth 100000 in
theorem k181_690 : lkp pt181 690 = iP 691 (fK (.inl 4)) := rfl
set_option maxRecDepth 100000 in
theorem k181_691 : lkp pt181 691 = iP 692 (f2I (fun x y => x + y)) := rfl
set_option maxRecDepth 100000 in
theorem k181_692 : lkp pt181 692 = iRI 693 qAI := rfl
set_option maxRecDepth 100000 in
theorem k181_693 : lkp pt181 693 = iCK 696 11 101 7 5 2 := rfl
set_option maxRecDepth 100000 in
theorem k181_696 : lkp pt181 696 = iP 697 (fAld 2) := rfl
set_option maxRecDepth 100000 in
theorem k181_697 : lkp pt181 697 = iP 698 (fAld 0) := rfl
set_option maxRecDepth 100000 in
theorem k181_698 : lkp pt181 698 = iP 699 (fIld 3) := rfl
set_option maxRecDepth 100000 in
theorem k181_699 : lkp pt181 699 = iP 700 (fK (.inl 1)) := rfl
set_option maxRecDepth 100000 in
theorem k181_700 : lkp pt181 700 = iP 701 (f2I (fun x y => x + y)) := rfl
set_option maxRecDepth 100000 in
theorem k181_701 : lkp pt181 701 = iRI 702 qAI := rfl
set_option maxRecDepth 100000 in
theorem k181_702 : lkp pt181 702 = iP 703 (fAld 0) := rfl
set_option maxRecDepth 100000 in
theorem k181_703 : lkp pt181 703 = iP 704 (fIld 3) := rfl
set_option maxRecDepth 100000 in
theorem k181_704 : lkp pt181 704 = iP 705 (fK (.inl 2)) := rfl
set_option maxRecDepth 100000 in
theorem k181_705 : lkp pt181 705 = iP 706 (f2I (fun x y => x + y)) := rfl
set_option maxRecDepth 100000 in
theorem k181_706 : lkp pt181 706 = iRI 707 qAI := rfl
set_option maxRecDepth 100000 in
theorem k181_707 : lkp pt181 707 = iP 708 (fAld 0) := rfl
set_option maxRecDepth 100000 in
theorem k181_708 : lkp pt181 708 = iP 709 (fIld 3) := rfl
set_option maxRecDepth 100000 in
theorem k181_709 : lkp pt181 709 = iP 710 (fK (.inl 3)) := rfl
set_option maxRecDepth 100000 in
theorem k181_710 : lkp pt181 710 = iP 711 (f2I (fun x y => x + y)) := rfl
set_option maxRecDepth 100000 in
theorem k181_711 : lkp pt181 711 = iRI 712 qAI := rfl
set_option maxRecDepth 100000 in
theorem k181_712 : lkp pt181 712 = iP 713 (fAld 0) := rfl
set_option maxRecDepth 100000 in
theorem k181_713 : lkp pt181 713 = iP 714 (fIld 3) := rfl
set_option maxRecDepth 100000 in
theorem k181_714 : lkp pt181 714 = iP 715 (fK (.inl 4)) := rfl
set_option maxRecDepth 100000 in
theorem k181_715 : lkp pt181 715 = iP 716 (f2I (fun x y => x + y)) := rfl
set_option maxRecDepth 100000 in
theorem k181_716 : lkp pt181 716 = iRI 717 qAI := rfl
set_option maxRecDepth 100000 in
theorem k181_717 : lkp pt181 717 = iCK 720 12 168 6 5 2 := rfl
set_option maxRecDepth 100000 in
theorem k181_720 : lkp pt181 720 = iP 721 fLcmp := rfl
set_option maxRecDepth 100000 in
theorem k181_721 : lkp pt181 721 = iB 724 901 (b1 (fun x => decide (x = 0))) := rfl
set_option maxRecDepth 100000 in
theorem k181_724 : lkp pt181 724 = iP 725 (fK (.inl 0)) := rfl
set_option maxRecDepth 100000 in
theorem k181_725 : lkp pt181 725 = iRet rZ := rfl
set_option maxRecDepth 100000 in
theorem k181_726 : lkp pt181 726 = iP 727 (fAld 1) := rfl
set_option maxRecDepth 100000 in
theorem k181_727 : lkp pt181 727 = iP 728 (fAld 0) := rfl
set_option maxRecDepth 100000 in
theorem k181_728 : lkp pt181 728 = iP 729 (fIld 3) := rfl
set_option maxRecDepth 100000 in
theorem k181_729 : lkp pt181 729 = iP 730 (fK (.inl 1)) := rfl
set_option maxRecDepth 100000 in
theorem k181_730 : lkp pt181 730 = iP 731 (f2I (fun x y => x + y)) := rfl
set_option maxRecDepth 100000 in
theorem k181_731 : lkp pt181 731 = iRI 732 qAI := rfl
set_option maxRecDepth 100000 in
theorem k181_732 : lkp pt181 732 = iCK 735 11 105 4 2 1 := rfl
set_option maxRecDepth 100000 in
theorem k181_735 : lkp pt181 735 = iP 736 (fAld 2) := rfl
set_option maxRecDepth 100000 in
theorem k181_736 : lkp pt181 736 = iP 737 (fAld 0) := rfl
set_option maxRecDepth 100000 in
theorem k181_737 : lkp pt181 737 = iP 738 (fIld 3) := rfl
set_option maxRecDepth 100000 in
theorem k181_738 : lkp pt181 738 = iP 739 (fK (.inl 1)) := rfl
set_option maxRecDepth 100000 in
theorem k181_739 : lkp pt181 739 = iP 740 (f2I (fun x y => x + y)) := rfl
set_option maxRecDepth 100000 in
theorem k181_740 : lkp pt181 740 = iRI 741 qAI := rfl
set_option maxRecDepth 100000 in
theorem k181_741 : lkp pt181 741 = iCK 744 12 171 3 2 1 := rfl
set_option maxRecDepth 100000 in
theorem k181_744 : lkp pt181 744 = iB 747 901 (b2 (fun x y => decide (x = y))) := rfl
set_option maxRecDepth 100000 in
theorem k181_747 : lkp pt181 747 = iP 748 (fK (.inl 0)) := rfl
set_option maxRecDepth 100000 in
theorem k181_748 : lkp pt181 748 = iRet rZ := rfl
set_option maxRecDepth 100000 in
theorem k181_749 : lkp pt181 749 = iP 750 (fAld 1) := rfl
set_option maxRecDepth 100000 in
theorem k181_750 : lkp pt181 750 = iP 751 (fAld 0) := rfl
set_option maxRecDepth 100000 in
theorem k181_751 : lkp pt181 751 = iP 752 (fIld 3) := rfl
set_option maxRecDepth 100000 in
theorem k181_752 : lkp pt181 752 = iP 753 (fK (.inl 1)) := rfl
set_option maxRecDepth 100000 in
theorem k181_753 : lkp pt181 753 = iP 754 (f2I (fun x y => x + y)) := rfl
set_option maxRecDepth 100000 in
theorem k181_754 : lkp pt181 754 = iRI 755 qAI := rfl
set_option maxRecDepth 100000 in
theorem k181_755 : lkp pt181 755 = iP 756 (fAld 0) := rfl
set_option maxRecDepth 100000 in
theorem k181_756 : lkp pt181 756 = iP 757 (fIld 3) := rfl
set_option maxRecDepth 100000 in
theorem k181_757 : lkp pt181 757 = iP 758 (fK (.inl 2)) := rfl
set_option maxRecDepth 100000 in
theorem k181_758 : lkp pt181 758 = iP 759 (f2I (fun x y => x + y)) := rfl
set_option maxRecDepth 100000 in
theorem k181_759 : lkp pt181 759 = iRI 760 qAI := rfl
set_option maxRecDepth 100000 in
theorem k181_760 : lkp pt181 760 = iP 761 (fAld 0) := rfl
set_option maxRecDepth 100000 in
theorem k181_761 : lkp pt181 761 = iP 762 (fIld 3) := rfl
set_option maxRecDepth 100000 in
theorem k181_762 : lkp pt181 762 = iP 763 (fK (.inl 3)) := rfl
set_option maxRecDepth 100000 in
theorem k181_763 : lkp pt181 763 = iP 764 (f2I (fun x y => x + y)) := rfl
set_option maxRecDepth 100000 in
theorem k181_764 : lkp pt181 764 = iRI 765 qAI := rfl
set_option maxRecDepth 100000 in
theorem k181_765 : lkp pt181 765 = iP 766 (fAld 0) := rfl
set_option maxRecDepth 100000 in
theorem k181_766 : lkp pt181 766 = iP 767 (fIld 3) := rfl
set_option maxRecDepth 100000 in
theorem k181_767 : lkp pt181 767 = iP 768 (fK (.inl 4)) := rfl
set_option maxRecDepth 100000 in
theorem k181_768 : lkp pt181 768 = iP 769 (f2I (fun x y => x + y)) := rfl
set_option maxRecDepth 100000 in
theorem k181_769 : lkp pt181 769 = iRI 770 qAI := rfl
set_option maxRecDepth 100000 in
theorem k181_770 : lkp pt181 770 = iCK 773 11 107 6 5 1 := rfl
set_option maxRecDepth 100000 in
theorem k181_773 : lkp pt181 773 = iP 774 (fAld 2) := rfl
set_option maxRecDepth 100000 in
theorem k181_774 : lkp pt181 774 = iP 775 (fAld 0) := rfl
set_option maxRecDepth 100000 in
theorem k181_775 : lkp pt181 775 = iP 776 (fIld 3) := rfl
set_option maxRecDepth 100000 in
theorem k181_776 : lkp pt181 776 = iP 777 (fK (.inl 1)) := rfl
set_option maxRecDepth 100000 in
theorem k181_777 : lkp pt181 777 = iP 778 (f2I (fun x y => x + y)) := rfl
set_option maxRecDepth 100000 in
theorem k181_778 : lkp pt181 778 = iRI 779 qAI := rfl
set_option maxRecDepth 100000 in
theorem k181_779 : lkp pt181 779 = iP 780 (fAld 0) := rfl
set_option maxRecDepth 100000 in
theorem k181_780 : lkp pt181 780 = iP 781 (fIld 3) := rfl
set_option maxRecDepth 100000 in
theorem k181_781 : lkp pt181 781 = iP 782 (fK (.inl 2)) := rfl
set_option maxRecDepth 100000 in
theorem k181_782 : lkp pt181 782 = iP 783 (f2I (fun x y => x + y)) := rfl
set_option maxRecDepth 100000 in
theorem k181_783 : lkp pt181 783 = iRI 784 qAI := rfl
set_option maxRecDepth 100000 in
theorem k181_784 : lkp pt181 784 = iP 785 (fAld 0) := rfl
set_option maxRecDepth 100000 in
theorem k181_785 : lkp pt181 785 = iP 786 (fIld 3) := rfl
set_option maxRecDepth 100000 in
theorem k181_786 : lkp pt181 786 = iP 787 (fK (.inl 3)) := rfl
set_option maxRecDepth 100000 in
theorem k181_787 : lkp pt181 787 = iP 788 (f2I (fun x y => x + y)) := rfl
set_option maxRecDepth 100000 in
theorem k181_788 : lkp pt181 788 = iRI 789 qAI := rfl
set_option maxRecDepth 100000 in
theorem k181_789 : lkp pt181 789 = iP 790 (fAld 0) := rfl
set_option maxRecDepth 100000 in
theorem k181_790 : lkp pt181 790 = iP 791 (fIld 3) := rfl
set_option maxRecDepth 100000 in
theorem k181_791 : lkp pt181 791 = iP 792 (fK (.inl 4)) := rfl
set_option maxRecDepth 100000 in
theorem k181_792 : lkp pt181 792 = iP 793 (f2I (fun x y => x + y)) := rfl
set_option maxRecDepth 100000 in
theorem k181_793 : lkp pt181 793 = iRI 794 qAI := rfl
set_option maxRecDepth 100000 in
theorem k181_794 : lkp pt181 794 = iCK 797 12 173 5 5 1 := rfl
set_option maxRecDepth 100000 in
theorem k181_797 : lkp pt181 797 = iB 800 901 (b2 (fun x y => decide (x = y))) := rfl
set_option maxRecDepth 100000 in
theorem k181_800 : lkp pt181 800 = iP 801 (fK (.inl 0)) := rfl
set_option maxRecDepth 100000 in
theorem k181_801 : lkp pt181 801 = iRet rZ := rfl
set_option maxRecDepth 100000 in
theorem k181_802 : lkp pt181 802 = iP 803 (fAld 1) := rfl
set_option maxRecDepth 100000 in
theorem k181_803 : lkp pt181 803 = iP 804 (fAld 0) := rfl
set_option maxRecDepth 100000 in
theorem k181_804 : lkp pt181 804 = iP 805 (fIld 3) := rfl
set_option maxRecDepth 100000 in
theorem k181_805 : lkp pt181 805 = iP 806 (fK (.inl 1)) := rfl
set_option maxRecDepth 100000 in
theorem k181_806 : lkp pt181 806 = iP 807 (f2I (fun x y => x + y)) := rfl
set_option maxRecDepth 100000 in
theorem k181_807 : lkp pt181 807 = iRI 808 qAI := rfl
set_option maxRecDepth 100000 in
theorem k181_808 : lkp pt181 808 = iCK 811 11 123 2 2 1 := rfl
set_option maxRecDepth 100000 in
theorem k181_811 : lkp pt181 811 = iP 812 (fAld 2) := rfl
set_option maxRecDepth 100000 in
theorem k181_812 : lkp pt181 812 = iP 813 (fAld 0) := rfl
set_option maxRecDepth 100000 in
theorem k181_813 : lkp pt181 813 = iP 814 (fIld 3) := rfl
set_option maxRecDepth 100000 in
theorem k181_814 : lkp pt181 814 = iP 815 (fK (.inl 1)) := rfl
set_option maxRecDepth 100000 in
theorem k181_815 : lkp pt181 815 = iP 816 (f2I (fun x y => x + y)) := rfl
set_option maxRecDepth 100000 in
theorem k181_816 : lkp pt181 816 = iRI 817 qAI := rfl
set_option maxRecDepth 100000 in
theorem k181_817 : lkp pt181 817 = iCK 820 12 178 2 2 1 := rfl
set_option maxRecDepth 100000 in
theorem k181_820 : lkp pt181 820 = iB 823 901 (b2 (fun x y => decide (x = y))) := rfl
set_option maxRecDepth 100000 in
theorem k181_823 : lkp pt181 823 = iP 824 (fK (.inl 0)) := rfl
set_option maxRecDepth 100000 in
theorem k181_824 : lkp pt181 824 = iRet rZ := rfl
set_option maxRecDepth 100000 in
theorem k181_825 : lkp pt181 825 = iP 826 (fAld 1) := rfl
set_option maxRecDepth 100000 in
theorem k181_826 : lkp pt181 826 = iP 827 (fAld 0) := rfl
set_option maxRecDepth 100000 in
theorem k181_827 : lkp pt181 827 = iP 828 (fIld 3) := rfl
set_option maxRecDepth 100000 in
theorem k181_828 : lkp pt181 828 = iP 829 (fK (.inl 1)) := rfl
set_option maxRecDepth 100000 in
theorem k181_829 : lkp pt181 829 = iP 830 (f2I (fun x y => x + y)) := rfl
set_option maxRecDepth 100000 in
theorem k181_830 : lkp pt181 830 = iRI 831 qAI := rfl
set_option maxRecDepth 100000 in
theorem k181_831 : lkp pt181 831 = iP 832 (fAld 0) := rfl
set_option maxRecDepth 100000 in
theorem k181_832 : lkp pt181 832 = iP 833 (fIld 3) := rfl
set_option maxRecDepth 100000 in
theorem k181_833 : lkp pt181 833 = iP 834 (fK (.inl 2)) := rfl
set_option maxRecDepth 100000 in
theorem k181_834 : lkp pt181 834 = iP 835 (f2I (fun x y => x + y)) := rfl
set_option maxRecDepth 100000 in
theorem k181_835 : lkp pt181 835 = iRI 836 qAI := rfl
set_option maxRecDepth 100000 in
theorem k181_836 : lkp pt181 836 = iP 837 (fAld 0) := rfl
set_option maxRecDepth 100000 in
theorem k181_837 : lkp pt181 837 = iP 838 (fIld 3) := rfl
set_option maxRecDepth 100000 in
theorem k181_838 : lkp pt181 838 = iP 839 (fK (.inl 3)) := rfl
set_option maxRecDepth 100000 in
theorem k181_839 : lkp pt181 839 = iP 840 (f2I (fun x y => x + y)) := rfl
set_option maxRecDepth 100000 in
theorem k181_840 : lkp pt181 840 = iRI 841 qAI := rfl
set_option maxRecDepth 100000 in
theorem k181_841 : lkp pt181 841 = iP 842 (fAld 0) := rfl
set_option maxRecDepth 100000 in
theorem k181_842 : lkp pt181 842 = iP 843 (fIld 3) := rfl
set_option maxRecDepth 100000 in
theorem k181_843 : lkp pt181 843 = iP 844 (fK (.inl 4)) := rfl
set_option maxRecDepth 100000 in
theorem k181_844 : lkp pt181 844 = iP 845 (f2I (fun x y => x + y)) := rfl
set_option maxRecDepth 100000 in
theorem k181_845 : lkp pt181 845 = iRI 846 qAI := rfl
set_option maxRecDepth 100000 in
theorem k181_846 : lkp pt181 846 = iCK 849 11 124 7 5 1 := rfl
set_option maxRecDepth 100000 in
theorem k181_849 : lkp pt181 849 = iP 850 (fAld 2) := rfl
set_option maxRecDepth 100000 in
theorem k181_850 : lkp pt181 850 = iP 851 (fAld 0) := rfl
set_option maxRecDepth 100000 in
theorem k181_851 : lkp pt181 851 = iP 852 (fIld 3) := rfl
set_option maxRecDepth 100000 in
theorem k181_852 : lkp pt181 852 = iP 853 (fK (.inl 1)) := rfl
set_option maxRecDepth 100000 in
theorem k181_853 : lkp pt181 853 = iP 854 (f2I (fun x y => x + y)) := rfl
set_option maxRecDepth 100000 in
theorem k181_854 : lkp pt181 854 = iRI 855 qAI := rfl
set_option maxRecDepth 100000 in
theorem k181_855 : lkp pt181 855 = iP 856 (fAld 0) := rfl
set_option maxRecDepth 100000 in
theorem k181_856 : lkp pt181 856 = iP 857 (fIld 3) := rfl
set_option maxRecDepth 100000 in
theorem k181_857 : lkp pt181 857 = iP 858 (fK (.inl 2)) := rfl
set_option maxRecDepth 100000 in
theorem k181_858 : lkp pt181 858 = iP 859 (f2I (fun x y => x + y)) := rfl
set_option maxRecDepth 100000 in
theorem k181_859 : lkp pt181 859 = iRI 860 qAI := rfl
set_option maxRecDepth 100000 in
theorem k181_860 : lkp pt181 860 = iP 861 (fAld 0) := rfl
set_option maxRecDepth 100000 in
theorem k181_861 : lkp pt181 861 = iP 862 (fIld 3) := rfl
set_option maxRecDepth 100000 in
theorem k181_862 : lkp pt181 862 = iP 863 (fK (.inl 3)) := rfl
set_option maxRecDepth 100000 in
theorem k181_863 : lkp pt181 863 = iP 864 (f2I (fun x y => x + y)) := rfl
set_option maxRecDepth 100000 in
theorem k181_864 : lkp pt181 864 = iRI 865 qAI := rfl
set_option maxRecDepth 100000 in
theorem k181_865 : lkp pt181 865 = iP 866 (fAld 0) := rfl
set_option maxRecDepth 100000 in
theorem k181_866 : lkp pt181 866 = iP 867 (fIld 3) := rfl
set_option maxRecDepth 100000 in
theorem k181_867 : lkp pt181 867 = iP 868 (fK (.inl 4)) := rfl
set_option maxRecDepth 100000 in
theorem k181_868 : lkp pt181 868 = iP 869 (f2I (fun x y => x + y)) := rfl
set_option maxRecDepth 100000 in
theorem k181_869 : lkp pt181 869 = iRI 870 qAI := rfl
set_option maxRecDepth 100000 in
theorem k181_870 : lkp pt181 870 = iCK 873 12 179 6 5 1 := rfl
set_option maxRecDepth 100000 in
theorem k181_873 : lkp pt181 873 = iB 876 901 (b2 (fun x y => decide (x = y))) := rfl
set_option maxRecDepth 100000 in
theorem k181_876 : lkp pt181 876 = iP 877 (fK (.inl 0)) := rfl
set_option maxRecDepth 100000 in
theorem k181_877 : lkp pt181 877 = iRet rZ := rfl
set_option maxRecDepth 100000 in
theorem k181_878 : lkp pt181 878 = iP 879 (fAld 1) := rfl
set_option maxRecDepth 100000 in
theorem k181_879 : lkp pt181 879 = iP 880 (fAld 0) := rfl
set_option maxRecDepth 100000 in
theorem k181_880 : lkp pt181 880 = iP 881 (fIld 3) := rfl
set_option maxRecDepth 100000 in
theorem k181_881 : lkp pt181 881 = iP 882 (fK (.inl 1)) := rfl
set_option maxRecDepth 100000 in
theorem k181_882 : lkp pt181 882 = iP 883 (f2I (fun x y => x + y)) := rfl
set_option maxRecDepth 100000 in
theorem k181_883 : lkp pt181 883 = iRI 884 qAI := rfl
set_option maxRecDepth 100000 in
theorem k181_884 : lkp pt181 884 = iCK 887 11 125 6 2 1 := rfl
set_option maxRecDepth 100000 in
theorem k181_887 : lkp pt181 887 = iP 888 (fAld 2) := rfl
set_option maxRecDepth 100000 in
theorem k181_888 : lkp pt181 888 = iP 889 (fAld 0) := rfl
set_option maxRecDepth 100000 in
theorem k181_889 : lkp pt181 889 = iP 890 (fIld 3) := rfl
set_option maxRecDepth 100000 in
theorem k181_890 : lkp pt181 890 = iP 891 (fK (.inl 1)) := rfl
set_option maxRecDepth 100000 in
theorem k181_891 : lkp pt181 891 = iP 892 (f2I (fun x y => x + y)) := rfl
set_option maxRecDepth 100000 in
theorem k181_892 : lkp pt181 892 = iRI 893 qAI := rfl
set_option maxRecDepth 100000 in
theorem k181_893 : lkp pt181 893 = iCK 896 12 180 6 2 1 := rfl
set_option maxRecDepth 100000 in
theorem k181_896 : lkp pt181 896 = iB 899 901 (b2 (fun x y => decide (x = y))) := rfl
set_option maxRecDepth 100000 in
theorem k181_899 : lkp pt181 899 = iP 900 (fK (.inl 0)) := rfl
set_option maxRecDepth 100000 in
theorem k181_900 : lkp pt181 900 = iRet rZ := rfl
set_option maxRecDepth 100000 in
theorem k181_901 : lkp pt181 901 = iP 904 (fInc 3 8) := rfl
set_option maxRecDepth 100000 in
theorem k181_904 : lkp pt181 904 = iP 18 fGo := rfl
set_option maxRecDepth 100000 in
theorem k181_907 : lkp pt181 907 = iP 908 (fK (.inl 1)) := rfl
set_option maxRecDepth 100000 in
theorem k181_908 : lkp pt181 908 = iRet rZ := rfl
set_option maxRecDepth 100000 in
theorem b181_0 {G : AG} (hG : FIX G) (x0 : Nat) (H : Hp) : G 181 0 [some (.inr (.inr x0)), none, none, none] [] H = ((hNw H 11 7).bind fun H1 => bif Nat.beq (H1.1 H.2.1.1).1 11 then (G 0 0 [some (.inr (.inr H.2.1.1)), none] [] H1).bind fun u2 => (asV u2.1).bind fun _ => (hNw u2.2 12 40).bind fun H3 => bif Nat.beq (H3.1 u2.2.2.1.1).1 12 then (G 127 0 [some (.inr (.inr u2.2.2.1.1)), none, none, none, none, none] [] H3).bind fun u4 => (asV u4.1).bind fun _ => G 181 18 [some (.inr (.inr x0)), some (.inr (.inr H.2.1.1)), some (.inr (.inr u2.2.2.1.1)), some (.inl 0)] [] u4.2 else none else none) := by
  refine Eq.trans (e1 hG PT_181 k181_0 _ _ _) ?_
  refine bdc fun H1 => ?_
  show G 181 3 [some (.inr (.inr x0)), none, none, none] [.inr (.inr H.2.1.1)] H1 = _
  refine Eq.trans (e1 hG PT_181 k181_3 _ _ _) ?_
  show G 181 4 [some (.inr (.inr x0)), none, none, none] [.inr (.inr H.2.1.1), .inr (.inr H.2.1.1)] H1 = _
  refine Eq.trans (e1 hG PT_181 k181_4 _ _ _) ?_
  refine bfc ?_ ?_
  · refine bdc fun u2 => ?_
    refine bdc fun _ => ?_
    show G 181 7 [some (.inr (.inr x0)), none, none, none] [.inr (.inr H.2.1.1)] u2.2 = _
    refine Eq.trans (e1 hG PT_181 k181_7 _ _ _) ?_
    show G 181 8 [some (.inr (.inr x0)), some (.inr (.inr H.2.1.1)), none, none] [] u2.2 = _
    refine Eq.trans (e1 hG PT_181 k181_8 _ _ _) ?_
    refine bdc fun H3 => ?_
    show G 181 11 [some (.inr (.inr x0)), some (.inr (.inr H.2.1.1)), none, none] [.inr (.inr u2.2.2.1.1)] H3 = _
    refine Eq.trans (e1 hG PT_181 k181_11 _ _ _) ?_
    show G 181 12 [some (.inr (.inr x0)), some (.inr (.inr H.2.1.1)), none, none] [.inr (.inr u2.2.2.1.1), .inr (.inr u2.2.2.1.1)] H3 = _
    refine Eq.trans (e1 hG PT_181 k181_12 _ _ _) ?_
    refine bfc ?_ ?_
    · refine bdc fun u4 => ?_
      refine bdc fun _ => ?_
      show G 181 15 [some (.inr (.inr x0)), some (.inr (.inr H.2.1.1)), none, none] [.inr (.inr u2.2.2.1.1)] u4.2 = _
      refine Eq.trans (e1 hG PT_181 k181_15 _ _ _) ?_
      show G 181 16 [some (.inr (.inr x0)), some (.inr (.inr H.2.1.1)), some (.inr (.inr u2.2.2.1.1)), none] [] u4.2 = _
      refine Eq.trans (e1 hG PT_181 k181_16 _ _ _) ?_
      show G 181 17 [some (.inr (.inr x0)), some (.inr (.inr H.2.1.1)), some (.inr (.inr u2.2.2.1.1)), none] [.inl 0] u4.2 = _
      refine Eq.trans (e1 hG PT_181 k181_17 _ _ _) ?_
      rfl
    · rfl
  · rfl
set_option maxRecDepth 100000 in
theorem b181_18 {G : AG} (hG : FIX G) (x0 : Nat) (x1 : Nat) (x2 : Nat) (x3 : Int32) (H : Hp) : G 181 18 [some (.inr (.inr x0)), some (.inr (.inr x1)), some (.inr (.inr x2)), some (.inl x3)] [] H = ((hLen H x0).bind fun i1 => bif decide (((i1 - 8) : Int32) < (x3 : Int32)) then retZ 1 H else (hAI H x0 x3).bind fun i2 => bif decide (((i2 &&& 31) : Int32) = Int32.ofInt 0) then bif Nat.beq (H.1 x1).1 11 then (G 11 0 [some (.inr (.inr x1))] [] H).bind fun u181 => (asI u181.1).bind fun i182 => bif Nat.beq (u181.2.1 x2).1 12 then (G 128 0 [some (.inr (.inr x2))] [] u181.2).bind fun u183 => (asI u183.1).bind fun i184 => bif decide ((i182 : Int32) = (i184 : Int32)) then G 181 901 [some (.inr (.inr x0)), some (.inr (.inr x1)), some (.inr (.inr x2)), some (.inl x3)] [] u183.2 else retZ 0 u183.2 else none else none else bif decide (((i2 &&& 31) : Int32) = Int32.ofInt (0 + 1)) then (hAI H x0 ((x3 + 1))).bind fun i163 => (hAI H x0 ((x3 + 2))).bind fun i164 => (hAI H x0 ((x3 + 3))).bind fun i165 => (hAI H x0 ((x3 + 4))).bind fun i166 => (hAI H x0 ((x3 + 5))).bind fun i167 => (hAI H x0 ((x3 + 6))).bind fun i168 => (hAI H x0 ((x3 + 7))).bind fun i169 => bif Nat.beq (H.1 x1).1 11 then (G 12 0 [some (.inr (.inr x1)), some (.inl i163), some (.inl i164), some (.inl i165), some (.inl i166), some (.inl i167), some (.inl i168), some (.inl i169), none, none] [] H).bind fun u170 => (asI u170.1).bind fun i171 => (hAI u170.2 x0 ((x3 + 1))).bind fun i172 => (hAI u170.2 x0 ((x3 + 2))).bind fun i173 => (hAI u170.2 x0 ((x3 + 3))).bind fun i174 => (hAI u170.2 x0 ((x3 + 4))).bind fun i175 => (hAI u170.2 x0 ((x3 + 5))).bind fun i176 => (hAI u170.2 x0 ((x3 + 6))).bind fun i177 => (hAI u170.2 x0 ((x3 + 7))).bind fun i178 => bif Nat.beq (u170.2.1 x2).1 12 then (G 129 0 [some (.inr (.inr x2)), some (.inl i172), some (.inl i173), some (.inl i174), some (.inl i175), some (.inl i176), some (.inl i177), some (.inl i178)] [] u170.2).bind fun u179 => (asI u179.1).bind fun i180 => bif decide ((i171 : Int32) = (i180 : Int32)) then G 181 901 [some (.inr (.inr x0)), some (.inr (.inr x1)), some (.inr (.inr x2)), some (.inl x3)] [] u179.2 else retZ 0 u179.2 else none else none else bif decide (((i2 &&& 31) : Int32) = Int32.ofInt ((0 + 1) + 1)) then (hAI H x0 ((x3 + 1))).bind fun i155 => (hAI H x0 ((x3 + 2))).bind fun i156 => bif Nat.beq (H.1 x1).1 11 then (G 14 0 [some (.inr (.inr x1)), some (.inl i155), some (.inl i156), none] [] H).bind fun u157 => (asI u157.1).bind fun i158 => (hAI u157.2 x0 ((x3 + 1))).bind fun i159 => (hAI u157.2 x0 ((x3 + 2))).bind fun i160 => bif Nat.beq (u157.2.1 x2).1 12 then (G 131 0 [some (.inr (.inr x2)), some (.inl i159), some (.inl i160)] [] u157.2).bind fun u161 => (asI u161.1).bind fun i162 => bif decide ((i158 : Int32) = (i162 : Int32)) then G 181 901 [some (.inr (.inr x0)), some (.inr (.inr x1)), some (.inr (.inr x2)), some (.inl x3)] [] u161.2 else retZ 0 u161.2 else none else none else bif decide (((i2 &&& 31) : Int32) = Int32.ofInt (((0 + 1) + 1) + 1)) then (hAI H x0 ((x3 + 1))).bind fun i149 => bif Nat.beq (H.1 x1).1 11 then (G 30 0 [some (.inr (.inr x1)), some (.inl i149), none, none] [] H).bind fun u150 => (asI u150.1).bind fun i151 => (hAI u150.2 x0 ((x3 + 1))).bind fun i152 => bif Nat.beq (u150.2.1 x2).1 12 then (G 134 0 [some (.inr (.inr x2)), some (.inl i152)] [] u150.2).bind fun u153 => (asI u153.1).bind fun i154 => bif decide ((i151 : Int32) = (i154 : Int32)) then G 181 901 [some (.inr (.inr x0)), some (.inr (.inr x1)), some (.inr (.inr x2)), some (.inl x3)] [] u153.2 else retZ 0 u153.2 else none else none else bif decide (((i2 &&& 31) : Int32) = Int32.ofInt ((((0 + 1) + 1) + 1) + 1)) then (hAI H x0 ((x3 + 1))).bind fun i141 => (hAI H x0 ((x3 + 2))).bind fun i142 => bif Nat.beq (H.1 x1).1 11 then (G 33 0 [some (.inr (.inr x1)), some (.inl i141), some (.inl i142), none, none, none, none] [] H).bind fun u143 => (asI u143.1).bind fun i144 => (hAI u143.2 x0 ((x3 + 1))).bind fun i145 => (hAI u143.2 x0 ((x3 + 2))).bind fun i146 => bif Nat.beq (u143.2.1 x2).1 12 then (G 136 0 [some (.inr (.inr x2)), some (.inl i145), some (.inl i146)] [] u143.2).bind fun u147 => (asI u147.1).bind fun i148 => bif decide ((i144 : Int32) = (i148 : Int32)) then G 181 901 [some (.inr (.inr x0)), some (.inr (.inr x1)), some (.inr (.inr x2)), some (.inl x3)] [] u147.2 else retZ 0 u147.2 else none else none else bif decide (((i2 &&& 31) : Int32) = Int32.ofInt (((((0 + 1) + 1) + 1) + 1) + 1)) then (hAI H x0 ((x3 + 1))).bind fun i135 => bif Nat.beq (H.1 x1).1 11 then (G 35 0 [some (.inr (.inr x1)), some (.inl i135), none] [] H).bind fun u136 => (asI u136.1).bind fun i137 => (hAI u136.2 x0 ((x3 + 1))).bind fun i138 => bif Nat.beq (u136.2.1 x2).1 12 then (G 137 0 [some (.inr (.inr x2)), some (.inl i138)] [] u136.2).bind fun u139 => (asI u139.1).bind fun i140 => bif decide ((i137 : Int32) = (i140 : Int32)) then G 181 901 [some (.inr (.inr x0)), some (.inr (.inr x1)), some (.inr (.inr x2)), some (.inl x3)] [] u139.2 else retZ 0 u139.2 else none else none else bif decide (((i2 &&& 31) : Int32) = Int32.ofInt ((((((0 + 1) + 1) + 1) + 1) + 1) + 1)) then (hAI H x0 ((x3 + 1))).bind fun i127 => (hAI H x0 ((x3 + 2))).bind fun i128 => bif Nat.beq (H.1 x1).1 11 then (G 37 0 [some (.inr (.inr x1)), some (.inl i127), some (.inl i128), none, none] [] H).bind fun u129 => (asI u129.1).bind fun i130 => (hAI u129.2 x0 ((x3 + 1))).bind fun i131 => (hAI u129.2 x0 ((x3 + 2))).bind fun i132 => bif Nat.beq (u129.2.1 x2).1 12 then (G 138 0 [some (.inr (.inr x2)), some (.inl i131), some (.inl i132), none] [] u129.2).bind fun u133 => (asI u133.1).bind fun i134 => bif decide ((i130 : Int32) = (i134 : Int32)) then G 181 901 [some (.inr (.inr x0)), some (.inr (.inr x1)), some (.inr (.inr x2)), some (.inl x3)] [] u133.2 else retZ 0 u133.2 else none else none else bif decide (((i2 &&& 31) : Int32) = Int32.ofInt (((((((0 + 1) + 1) + 1) + 1) + 1) + 1) + 1)) then (hAI H x0 ((x3 + 1))).bind fun i121 => bif Nat.beq (H.1 x1).1 11 then (G 42 0 [some (.inr (.inr x1)), some (.inl i121), none] [] H).bind fun u122 => (asI u122.1).bind fun i123 => (hAI u122.2 x0 ((x3 + 1))).bind fun i124 => bif Nat.beq (u122.2.1 x2).1 12 then (G 139 0 [some (.inr (.inr x2)), some (.inl i124)] [] u122.2).bind fun u125 => (asI u125.1).bind fun i126 => bif decide ((i123 : Int32) = (i126 : Int32)) then G 181 901 [some (.inr (.inr x0)), some (.inr (.inr x1)), some (.inr (.inr x2)), some (.inl x3)] [] u125.2 else retZ 0 u125.2 else none else none else bif decide (((i2 &&& 31) : Int32) = Int32.ofInt ((((((((0 + 1) + 1) + 1) + 1) + 1) + 1) + 1) + 1)) then (hAI H x0 ((x3 + 1))).bind fun i113 => (hAI H x0 ((x3 + 2))).bind fun i114 => bif Nat.beq (H.1 x1).1 11 then (G 44 0 [some (.inr (.inr x1)), some (.inl i113), some (.inl i114), none] [] H).bind fun u115 => (asI u115.1).bind fun i116 => (hAI u115.2 x0 ((x3 + 1))).bind fun i117 => (hAI u115.2 x0 ((x3 + 2))).bind fun i118 => bif Nat.beq (u115.2.1 x2).1 12 then (G 140 0 [some (.inr (.inr x2)), some (.inl i117), some (.inl i118)] [] u115.2).bind fun u119 => (asI u119.1).bind fun i120 => bif decide ((i116 : Int32) = (i120 : Int32)) then G 181 901 [some (.inr (.inr x0)), some (.inr (.inr x1)), some (.inr (.inr x2)), some (.inl x3)] [] u119.2 else retZ 0 u119.2 else none else none else bif decide (((i2 &&& 31) : Int32) = Int32.ofInt (((((((((0 + 1) + 1) + 1) + 1) + 1) + 1) + 1) + 1) + 1)) then (hAI H x0 ((x3 + 1))).bind fun i103 => (hAI H x0 ((x3 + 2))).bind fun i104 => (hAI H x0 ((x3 + 3))).bind fun i105 => bif Nat.beq (H.1 x1).1 11 then (G 46 0 [some (.inr (.inr x1)), some (.inl i103), some (.inl i104), some (.inl i105), none] [] H).bind fun u106 => (asI u106.1).bind fun i107 => (hAI u106.2 x0 ((x3 + 1))).bind fun i108 => (hAI u106.2 x0 ((x3 + 2))).bind fun i109 => (hAI u106.2 x0 ((x3 + 3))).bind fun i110 => bif Nat.beq (u106.2.1 x2).1 12 then (G 142 0 [some (.inr (.inr x2)), some (.inl i108), some (.inl i109), some (.inl i110), none] [] u106.2).bind fun u111 => (asI u111.1).bind fun i112 => bif decide ((i107 : Int32) = (i112 : Int32)) then G 181 901 [some (.inr (.inr x0)), some (.inr (.inr x1)), some (.inr (.inr x2)), some (.inl x3)] [] u111.2 else retZ 0 u111.2 else none else none else bif decide (((i2 &&& 31) : Int32) = Int32.ofInt ((((((((((0 + 1) + 1) + 1) + 1) + 1) + 1) + 1) + 1) + 1) + 1)) then (hAI H x0 ((x3 + 1))).bind fun i93 => (hAI H x0 ((x3 + 2))).bind fun i94 => (hAI H x0 ((x3 + 3))).bind fun i95 => bif Nat.beq (H.1 x1).1 11 then (G 49 0 [some (.inr (.inr x1)), some (.inl i93), some (.inl i94), some (.inl i95), none, none] [] H).bind fun u96 => (asI u96.1).bind fun i97 => (hAI u96.2 x0 ((x3 + 1))).bind fun i98 => (hAI u96.2 x0 ((x3 + 2))).bind fun i99 => (hAI u96.2 x0 ((x3 + 3))).bind fun i100 => bif Nat.beq (u96.2.1 x2).1 12 then (G 144 0 [some (.inr (.inr x2)), some (.inl i98), some (.inl i99), some (.inl i100)] [] u96.2).bind fun u101 => (asI u101.1).bind fun i102 => bif decide ((i97 : Int32) = (i102 : Int32)) then G 181 901 [some (.inr (.inr x0)), some (.inr (.inr x1)), some (.inr (.inr x2)), some (.inl x3)] [] u101.2 else retZ 0 u101.2 else none else none else bif decide (((i2 &&& 31) : Int32) = Int32.ofInt (((((((((((0 + 1) + 1) + 1) + 1) + 1) + 1) + 1) + 1) + 1) + 1) + 1)) then (hAI H x0 ((x3 + 1))).bind fun i83 => (hAI H x0 ((x3 + 2))).bind fun i84 => (hAI H x0 ((x3 + 3))).bind fun i85 => bif Nat.beq (H.1 x1).1 11 then (G 50 0 [some (.inr (.inr x1)), some (.inl i83), some (.inl i84), some (.inl i85), none] [] H).bind fun u86 => (asI u86.1).bind fun i87 => (hAI u86.2 x0 ((x3 + 1))).bind fun i88 => (hAI u86.2 x0 ((x3 + 2))).bind fun i89 => (hAI u86.2 x0 ((x3 + 3))).bind fun i90 => bif Nat.beq (u86.2.1 x2).1 12 then (G 145 0 [some (.inr (.inr x2)), some (.inl i88), some (.inl i89), some (.inl i90)] [] u86.2).bind fun u91 => (asI u91.1).bind fun i92 => bif decide ((i87 : Int32) = (i92 : Int32)) then G 181 901 [some (.inr (.inr x0)), some (.inr (.inr x1)), some (.inr (.inr x2)), some (.inl x3)] [] u91.2 else retZ 0 u91.2 else none else none else bif decide (((i2 &&& 31) : Int32) = Int32.ofInt ((((((((((((0 + 1) + 1) + 1) + 1) + 1) + 1) + 1) + 1) + 1) + 1) + 1) + 1)) then (hAI H x0 ((x3 + 1))).bind fun i77 => bif Nat.beq (H.1 x1).1 11 then (G 63 0 [some (.inr (.inr x1)), some (.inl i77)] [] H).bind fun u78 => (asI u78.1).bind fun i79 => (hAI u78.2 x0 ((x3 + 1))).bind fun i80 => bif Nat.beq (u78.2.1 x2).1 12 then (G 150 0 [some (.inr (.inr x2)), some (.inl i80)] [] u78.2).bind fun u81 => (asI u81.1).bind fun i82 => bif decide ((i79 : Int32) = (i82 : Int32)) then G 181 901 [some (.inr (.inr x0)), some (.inr (.inr x1)), some (.inr (.inr x2)), some (.inl x3)] [] u81.2 else retZ 0 u81.2 else none else none else bif decide (((i2 &&& 31) : Int32) = Int32.ofInt (((((((((((((0 + 1) + 1) + 1) + 1) + 1) + 1) + 1) + 1) + 1) + 1) + 1) + 1) + 1)) then (hAI H x0 ((x3 + 1))).bind fun i69 => (hAI H x0 ((x3 + 2))).bind fun i70 => bif Nat.beq (H.1 x1).1 11 then (G 65 0 [some (.inr (.inr x1)), some (.inl i69), some (.inl i70), none, none] [] H).bind fun u71 => (asI u71.1).bind fun i72 => (hAI u71.2 x0 ((x3 + 1))).bind fun i73 => (hAI u71.2 x0 ((x3 + 2))).bind fun i74 => bif Nat.beq (u71.2.1 x2).1 12 then (G 151 0 [some (.inr (.inr x2)), some (.inl i73), some (.inl i74), none] [] u71.2).bind fun u75 => (asI u75.1).bind fun i76 => bif decide ((i72 : Int32) = (i76 : Int32)) then G 181 901 [some (.inr (.inr x0)), some (.inr (.inr x1)), some (.inr (.inr x2)), some (.inl x3)] [] u75.2 else retZ 0 u75.2 else none else none else bif decide (((i2 &&& 31) : Int32) = Int32.ofInt ((((((((((((((0 + 1) + 1) + 1) + 1) + 1) + 1) + 1) + 1) + 1) + 1) + 1) + 1) + 1) + 1)) then (hAI H x0 ((x3 + 1))).bind fun i57 => (hAI H x0 ((x3 + 2))).bind fun i58 => (hAI H x0 ((x3 + 3))).bind fun i59 => (hAI H x0 ((x3 + 4))).bind fun i60 => bif Nat.beq (H.1 x1).1 11 then (G 97 0 [some (.inr (.inr x1)), some (.inl i57), some (.inl i58), some (.inl i59), some (.inl i60), none, none, none, none, none] [] H).bind fun u61 => (asJ u61.1).bind fun j62 => (hAI u61.2 x0 ((x3 + 1))).bind fun i63 => (hAI u61.2 x0 ((x3 + 2))).bind fun i64 => (hAI u61.2 x0 ((x3 + 3))).bind fun i65 => (hAI u61.2 x0 ((x3 + 4))).bind fun i66 => bif Nat.beq (u61.2.1 x2).1 12 then (G 165 0 [some (.inr (.inr x2)), some (.inl i63), some (.inl i64), some (.inl i65), some (.inl i66), none, none, none, none, none, none, none, none] [] u61.2).bind fun u67 => (asJ u67.1).bind fun j68 => bif decide (((lg_cmp j62 j68) : Int32) = 0) then G 181 901 [some (.inr (.inr x0)), some (.inr (.inr x1)), some (.inr (.inr x2)), some (.inl x3)] [] u67.2 else retZ 0 u67.2 else none else none else bif decide (((i2 &&& 31) : Int32) = Int32.ofInt (((((((((((((((0 + 1) + 1) + 1) + 1) + 1) + 1) + 1) + 1) + 1) + 1) + 1) + 1) + 1) + 1) + 1)) then (hAI H x0 ((x3 + 1))).bind fun i45 => (hAI H x0 ((x3 + 2))).bind fun i46 => (hAI H x0 ((x3 + 3))).bind fun i47 => (hAI H x0 ((x3 + 4))).bind fun i48 => bif Nat.beq (H.1 x1).1 11 then (G 101 0 [some (.inr (.inr x1)), some (.inl i45), some (.inl i46), some (.inl i47), some (.inl i48), none, none] [] H).bind fun u49 => (asJ u49.1).bind fun j50 => (hAI u49.2 x0 ((x3 + 1))).bind fun i51 => (hAI u49.2 x0 ((x3 + 2))).bind fun i52 => (hAI u49.2 x0 ((x3 + 3))).bind fun i53 => (hAI u49.2 x0 ((x3 + 4))).bind fun i54 => bif Nat.beq (u49.2.1 x2).1 12 then (G 168 0 [some (.inr (.inr x2)), some (.inl i51), some (.inl i52), some (.inl i53), some (.inl i54), none] [] u49.2).bind fun u55 => (asJ u55.1).bind fun j56 => bif decide (((lg_cmp j50 j56) : Int32) = 0) then G 181 901 [some (.inr (.inr x0)), some (.inr (.inr x1)), some (.inr (.inr x2)), some (.inl x3)] [] u55.2 else retZ 0 u55.2 else none else none else bif decide (((i2 &&& 31) : Int32) = Int32.ofInt ((((((((((((((((0 + 1) + 1) + 1) + 1) + 1) + 1) + 1) + 1) + 1) + 1) + 1) + 1) + 1) + 1) + 1) + 1)) then (hAI H x0 ((x3 + 1))).bind fun i39 => bif Nat.beq (H.1 x1).1 11 then (G 105 0 [some (.inr (.inr x1)), some (.inl i39), none, none] [] H).bind fun u40 => (asI u40.1).bind fun i41 => (hAI u40.2 x0 ((x3 + 1))).bind fun i42 => bif Nat.beq (u40.2.1 x2).1 12 then (G 171 0 [some (.inr (.inr x2)), some (.inl i42), none] [] u40.2).bind fun u43 => (asI u43.1).bind fun i44 => bif decide ((i41 : Int32) = (i44 : Int32)) then G 181 901 [some (.inr (.inr x0)), some (.inr (.inr x1)), some (.inr (.inr x2)), some (.inl x3)] [] u43.2 else retZ 0 u43.2 else none else none else bif decide (((i2 &&& 31) : Int32) = Int32.ofInt (((((((((((((((((0 + 1) + 1) + 1) + 1) + 1) + 1) + 1) + 1) + 1) + 1) + 1) + 1) + 1) + 1) + 1) + 1) + 1)) then (hAI H x0 ((x3 + 1))).bind fun i27 => (hAI H x0 ((x3 + 2))).bind fun i28 => (hAI H x0 ((x3 + 3))).bind fun i29 => (hAI H x0 ((x3 + 4))).bind fun i30 => bif Nat.beq (H.1 x1).1 11 then (G 107 0 [some (.inr (.inr x1)), some (.inl i27), some (.inl i28), some (.inl i29), some (.inl i30), none] [] H).bind fun u31 => (asI u31.1).bind fun i32 => (hAI u31.2 x0 ((x3 + 1))).bind fun i33 => (hAI u31.2 x0 ((x3 + 2))).bind fun i34 => (hAI u31.2 x0 ((x3 + 3))).bind fun i35 => (hAI u31.2 x0 ((x3 + 4))).bind fun i36 => bif Nat.beq (u31.2.1 x2).1 12 then (G 173 0 [some (.inr (.inr x2)), some (.inl i33), some (.inl i34), some (.inl i35), some (.inl i36)] [] u31.2).bind fun u37 => (asI u37.1).bind fun i38 => bif decide ((i32 : Int32) = (i38 : Int32)) then G 181 901 [some (.inr (.inr x0)), some (.inr (.inr x1)), some (.inr (.inr x2)), some (.inl x3)] [] u37.2 else retZ 0 u37.2 else none else none else bif decide (((i2 &&& 31) : Int32) = Int32.ofInt ((((((((((((((((((0 + 1) + 1) + 1) + 1) + 1) + 1) + 1) + 1) + 1) + 1) + 1) + 1) + 1) + 1) + 1) + 1) + 1) + 1)) then (hAI H x0 ((x3 + 1))).bind fun i21 => bif Nat.beq (H.1 x1).1 11 then (G 123 0 [some (.inr (.inr x1)), some (.inl i21)] [] H).bind fun u22 => (asI u22.1).bind fun i23 => (hAI u22.2 x0 ((x3 + 1))).bind fun i24 => bif Nat.beq (u22.2.1 x2).1 12 then (G 178 0 [some (.inr (.inr x2)), some (.inl i24)] [] u22.2).bind fun u25 => (asI u25.1).bind fun i26 => bif decide ((i23 : Int32) = (i26 : Int32)) then G 181 901 [some (.inr (.inr x0)), some (.inr (.inr x1)), some (.inr (.inr x2)), some (.inl x3)] [] u25.2 else retZ 0 u25.2 else none else none else bif decide (((i2 &&& 31) : Int32) = Int32.ofInt (((((((((((((((((((0 + 1) + 1) + 1) + 1) + 1) + 1) + 1) + 1) + 1) + 1) + 1) + 1) + 1) + 1) + 1) + 1) + 1) + 1) + 1)) then (hAI H x0 ((x3 + 1))).bind fun i9 => (hAI H x0 ((x3 + 2))).bind fun i10 => (hAI H x0 ((x3 + 3))).bind fun i11 => (hAI H x0 ((x3 + 4))).bind fun i12 => bif Nat.beq (H.1 x1).1 11 then (G 124 0 [some (.inr (.inr x1)), some (.inl i9), some (.inl i10), some (.inl i11), some (.inl i12), none, none] [] H).bind fun u13 => (asI u13.1).bind fun i14 => (hAI u13.2 x0 ((x3 + 1))).bind fun i15 => (hAI u13.2 x0 ((x3 + 2))).bind fun i16 => (hAI u13.2 x0 ((x3 + 3))).bind fun i17 => (hAI u13.2 x0 ((x3 + 4))).bind fun i18 => bif Nat.beq (u13.2.1 x2).1 12 then (G 179 0 [some (.inr (.inr x2)), some (.inl i15), some (.inl i16), some (.inl i17), some (.inl i18), none] [] u13.2).bind fun u19 => (asI u19.1).bind fun i20 => bif decide ((i14 : Int32) = (i20 : Int32)) then G 181 901 [some (.inr (.inr x0)), some (.inr (.inr x1)), some (.inr (.inr x2)), some (.inl x3)] [] u19.2 else retZ 0 u19.2 else none else none else bif decide (((i2 &&& 31) : Int32) = Int32.ofInt ((((((((((((((((((((0 + 1) + 1) + 1) + 1) + 1) + 1) + 1) + 1) + 1) + 1) + 1) + 1) + 1) + 1) + 1) + 1) + 1) + 1) + 1) + 1)) then (hAI H x0 ((x3 + 1))).bind fun i3 => bif Nat.beq (H.1 x1).1 11 then (G 125 0 [some (.inr (.inr x1)), some (.inl i3), none, none, none, none] [] H).bind fun u4 => (asI u4.1).bind fun i5 => (hAI u4.2 x0 ((x3 + 1))).bind fun i6 => bif Nat.beq (u4.2.1 x2).1 12 then (G 180 0 [some (.inr (.inr x2)), some (.inl i6), none, none, none, none] [] u4.2).bind fun u7 => (asI u7.1).bind fun i8 => bif decide ((i5 : Int32) = (i8 : Int32)) then G 181 901 [some (.inr (.inr x0)), some (.inr (.inr x1)), some (.inr (.inr x2)), some (.inl x3)] [] u7.2 else retZ 0 u7.2 else none else none else G 181 901 [some (.inr (.inr x0)), some (.inr (.inr x1)), some (.inr (.inr x2)), some (.inl x3)] [] H) := by
  refine Eq.trans (e1 hG PT_181 k181_18 _ _ _) ?_
  show G 181 19 [some (.inr (.inr x0)), some (.inr (.inr x1)), some (.inr (.inr x2)), some (.inl x3)] [.inl x3] H = _
  refine Eq.trans (e1 hG PT_181 k181_19 _ _ _) ?_
  show G 181 20 [some (.inr (.inr x0)), some (.inr (.inr x1)), some (.inr (.inr x2)), some (.inl x3)] [.inr (.inr x0), .inl x3] H = _
  refine Eq.trans (e1 hG PT_181 k181_20 _ _ _) ?_
  refine bdc fun i1 => ?_
  show G 181 21 [some (.inr (.inr x0)), some (.inr (.inr x1)), some (.inr (.inr x2)), some (.inl x3)] [.inl i1, .inl x3] H = _
  refine Eq.trans (e1 hG PT_181 k181_21 _ _ _) ?_
  show G 181 23 [some (.inr (.inr x0)), some (.inr (.inr x1)), some (.inr (.inr x2)), some (.inl x3)] [.inl 8, .inl i1, .inl x3] H = _
  refine Eq.trans (e1 hG PT_181 k181_23 _ _ _) ?_
  show G 181 24 [some (.inr (.inr x0)), some (.inr (.inr x1)), some (.inr (.inr x2)), some (.inl x3)] [.inl (i1 - 8), .inl x3] H = _
  refine Eq.trans (e1 hG PT_181 k181_24 _ _ _) ?_
  refine bfc ?_ ?_
  · show G 181 907 [some (.inr (.inr x0)), some (.inr (.inr x1)), some (.inr (.inr x2)), some (.inl x3)] [] H = _
    refine Eq.trans (e1 hG PT_181 k181_907 _ _ _) ?_
    show G 181 908 [some (.inr (.inr x0)), some (.inr (.inr x1)), some (.inr (.inr x2)), some (.inl x3)] [.inl 1] H = _
    exact e1 hG PT_181 k181_908 _ _ _
  · show G 181 27 [some (.inr (.inr x0)), some (.inr (.inr x1)), some (.inr (.inr x2)), some (.inl x3)] [] H = _
    refine Eq.trans (e1 hG PT_181 k181_27 _ _ _) ?_
    show G 181 28 [some (.inr (.inr x0)), some (.inr (.inr x1)), some (.inr (.inr x2)), some (.inl x3)] [.inr (.inr x0)] H = _
    refine Eq.trans (e1 hG PT_181 k181_28 _ _ _) ?_
    show G 181 29 [some (.inr (.inr x0)), some (.inr (.inr x1)), some (.inr (.inr x2)), some (.inl x3)] [.inl x3, .inr (.inr x0)] H = _
    refine Eq.trans (e1 hG PT_181 k181_29 _ _ _) ?_
    refine bdc fun i2 => ?_
    show G 181 30 [some (.inr (.inr x0)), some (.inr (.inr x1)), some (.inr (.inr x2)), some (.inl x3)] [.inl i2] H = _
    refine Eq.trans (e1 hG PT_181 k181_30 _ _ _) ?_
    show G 181 32 [some (.inr (.inr x0)), some (.inr (.inr x1)), some (.inr (.inr x2)), some (.inl x3)] [.inl 31, .inl i2] H = _
    refine Eq.trans (e1 hG PT_181 k181_32 _ _ _) ?_
    show G 181 33 [some (.inr (.inr x0)), some (.inr (.inr x1)), some (.inr (.inr x2)), some (.inl x3)] [.inl (i2 &&& 31)] H = _
    refine Eq.trans (e1 hG PT_181 k181_33 _ _ _) ?_
    refine bfc ?_ ?_
    · show G 181 132 [some (.inr (.inr x0)), some (.inr (.inr x1)), some (.inr (.inr x2)), some (.inl x3)] [] H = _
      refine Eq.trans (e1 hG PT_181 k181_132 _ _ _) ?_
      show G 181 133 [some (.inr (.inr x0)), some (.inr (.inr x1)), some (.inr (.inr x2)), some (.inl x3)] [.inr (.inr x1)] H = _
      refine Eq.trans (e1 hG PT_181 k181_133 _ _ _) ?_
      refine bfc ?_ ?_
      · refine bdc fun u181 => ?_
        refine bdc fun i182 => ?_
        show G 181 136 [some (.inr (.inr x0)), some (.inr (.inr x1)), some (.inr (.inr x2)), some (.inl x3)] [.inl i182] u181.2 = _
        refine Eq.trans (e1 hG PT_181 k181_136 _ _ _) ?_
        show G 181 137 [some (.inr (.inr x0)), some (.inr (.inr x1)), some (.inr (.inr x2)), some (.inl x3)] [.inr (.inr x2), .inl i182] u181.2 = _
        refine Eq.trans (e1 hG PT_181 k181_137 _ _ _) ?_
        refine bfc ?_ ?_
        · refine bdc fun u183 => ?_
          refine bdc fun i184 => ?_
          show G 181 140 [some (.inr (.inr x0)), some (.inr (.inr x1)), some (.inr (.inr x2)), some (.inl x3)] [.inl i184, .inl i182] u183.2 = _
          refine Eq.trans (e1 hG PT_181 k181_140 _ _ _) ?_
          refine bfc ?_ ?_
          · rfl
          · show G 181 143 [some (.inr (.inr x0)), some (.inr (.inr x1)), some (.inr (.inr x2)), some (.inl x3)] [] u183.2 = _
            refine Eq.trans (e1 hG PT_181 k181_143 _ _ _) ?_
            show G 181 144 [some (.inr (.inr x0)), some (.inr (.inr x1)), some (.inr (.inr x2)), some (.inl x3)] [.inl 0] u183.2 = _
            exact e1 hG PT_181 k181_144 _ _ _
        · rfl
      · rfl
    · refine bfc ?_ ?_
      · show G 181 145 [some (.inr (.inr x0)), some (.inr (.inr x1)), some (.inr (.inr x2)), some (.inl x3)] [] H = _
        refine Eq.trans (e1 hG PT_181 k181_145 _ _ _) ?_
        show G 181 146 [some (.inr (.inr x0)), some (.inr (.inr x1)), some (.inr (.inr x2)), some (.inl x3)] [.inr (.inr x1)] H = _
        refine Eq.trans (e1 hG PT_181 k181_146 _ _ _) ?_
        show G 181 147 [some (.inr (.inr x0)), some (.inr (.inr x1)), some (.inr (.inr x2)), some (.inl x3)] [.inr (.inr x0), .inr (.inr x1)] H = _
        refine Eq.trans (e1 hG PT_181 k181_147 _ _ _) ?_
        show G 181 148 [some (.inr (.inr x0)), some (.inr (.inr x1)), some (.inr (.inr x2)), some (.inl x3)] [.inl x3, .inr (.inr x0), .inr (.inr x1)] H = _
        refine Eq.trans (e1 hG PT_181 k181_148 _ _ _) ?_
        show G 181 149 [some (.inr (.inr x0)), some (.inr (.inr x1)), some (.inr (.inr x2)), some (.inl x3)] [.inl 1, .inl x3, .inr (.inr x0), .inr (.inr x1)] H = _
        refine Eq.trans (e1 hG PT_181 k181_149 _ _ _) ?_
        show G 181 150 [some (.inr (.inr x0)), some (.inr (.inr x1)), some (.inr (.inr x2)), some (.inl x3)] [.inl (x3 + 1), .inr (.inr x0), .inr (.inr x1)] H = _
        refine Eq.trans (e1 hG PT_181 k181_150 _ _ _) ?_
        refine bdc fun i163 => ?_
        show G 181 151 [some (.inr (.inr x0)), some (.inr (.inr x1)), some (.inr (.inr x2)), some (.inl x3)] [.inl i163, .inr (.inr x1)] H = _
        refine Eq.trans (e1 hG PT_181 k181_151 _ _ _) ?_
        show G 181 152 [some (.inr (.inr x0)), some (.inr (.inr x1)), some (.inr (.inr x2)), some (.inl x3)] [.inr (.inr x0), .inl i163, .inr (.inr x1)] H = _
        refine Eq.trans (e1 hG PT_181 k181_152 _ _ _) ?_
        show G 181 153 [some (.inr (.inr x0)), some (.inr (.inr x1)), some (.inr (.inr x2)), some (.inl x3)] [.inl x3, .inr (.inr x0), .inl i163, .inr (.inr x1)] H = _
        refine Eq.trans (e1 hG PT_181 k181_153 _ _ _) ?_
        show G 181 154 [some (.inr (.inr x0)), some (.inr (.inr x1)), some (.inr (.inr x2)), some (.inl x3)] [.inl 2, .inl x3, .inr (.inr x0), .inl i163, .inr (.inr x1)] H = _
        refine Eq.trans (e1 hG PT_181 k181_154 _ _ _) ?_
        show G 181 155 [some (.inr (.inr x0)), some (.inr (.inr x1)), some (.inr (.inr x2)), some (.inl x3)] [.inl (x3 + 2), .inr (.inr x0), .inl i163, .inr (.inr x1)] H = _
        refine Eq.trans (e1 hG PT_181 k181_155 _ _ _) ?_
        refine bdc fun i164 => ?_
        show G 181 156 [some (.inr (.inr x0)), some (.inr (.inr x1)), some (.inr (.inr x2)), some (.inl x3)] [.inl i164, .inl i163, .inr (.inr x1)] H = _
        refine Eq.trans (e1 hG PT_181 k181_156 _ _ _) ?_
        show G 181 157 [some (.inr (.inr x0)), some (.inr (.inr x1)), some (.inr (.inr x2)), some (.inl x3)] [.inr (.inr x0), .inl i164, .inl i163, .inr (.inr x1)] H = _
        refine Eq.trans (e1 hG PT_181 k181_157 _ _ _) ?_
        show G 181 158 [some (.inr (.inr x0)), some (.inr (.inr x1)), some (.inr (.inr x2)), some (.inl x3)] [.inl x3, .inr (.inr x0), .inl i164, .inl i163, .inr (.inr x1)] H = _
        refine Eq.trans (e1 hG PT_181 k181_158 _ _ _) ?_
        show G 181 159 [some (.inr (.inr x0)), some (.inr (.inr x1)), some (.inr (.inr x2)), some (.inl x3)] [.inl 3, .inl x3, .inr (.inr x0), .inl i164, .inl i163, .inr (.inr x1)] H = _
        refine Eq.trans (e1 hG PT_181 k181_159 _ _ _) ?_
        show G 181 160 [some (.inr (.inr x0)), some (.inr (.inr x1)), some (.inr (.inr x2)), some (.inl x3)] [.inl (x3 + 3), .inr (.inr x0), .inl i164, .inl i163, .inr (.inr x1)] H = _
        refine Eq.trans (e1 hG PT_181 k181_160 _ _ _) ?_
        refine bdc fun i165 => ?_
        show G 181 161 [some (.inr (.inr x0)), some (.inr (.inr x1)), some (.inr (.inr x2)), some (.inl x3)] [.inl i165, .inl i164, .inl i163, .inr (.inr x1)] H = _
        refine Eq.trans (e1 hG PT_181 k181_161 _ _ _) ?_
        show G 181 162 [some (.inr (.inr x0)), some (.inr (.inr x1)), some (.inr (.inr x2)), some (.inl x3)] [.inr (.inr x0), .inl i165, .inl i164, .inl i163, .inr (.inr x1)] H = _
        refine Eq.trans (e1 hG PT_181 k181_162 _ _ _) ?_
        show G 181 163 [some (.inr (.inr x0)), some (.inr (.inr x1)), some (.inr (.inr x2)), some (.inl x3)] [.inl x3, .inr (.inr x0), .inl i165, .inl i164, .inl i163, .inr (.inr x1)] H = _
        refine Eq.trans (e1 hG PT_181 k181_163 _ _ _) ?_
        show G 181 164 [some (.inr (.inr x0)), some (.inr (.inr x1)), some (.inr (.inr x2)), some (.inl x3)] [.inl 4, .inl x3, .inr (.inr x0), .inl i165, .inl i164, .inl i163, .inr (.inr x1)] H = _
        refine Eq.trans (e1 hG PT_181 k181_164 _ _ _) ?_
        show G 181 165 [some (.inr (.inr x0)), some (.inr (.inr x1)), some (.inr (.inr x2)), some (.inl x3)] [.inl (x3 + 4), .inr (.inr x0), .inl i165, .inl i164, .inl i163, .inr (.inr x1)] H = _
        refine Eq.trans (e1 hG PT_181 k181_165 _ _ _) ?_
        refine bdc fun i166 => ?_
        show G 181 166 [some (.inr (.inr x0)), some (.inr (.inr x1)), some (.inr (.inr x2)), some (.inl x3)] [.inl i166, .inl i165, .inl i164, .inl i163, .inr (.inr x1)] H = _
        refine Eq.trans (e1 hG PT_181 k181_166 _ _ _) ?_
        show G 181 167 [some (.inr (.inr x0)), some (.inr (.inr x1)), some (.inr (.inr x2)), some (.inl x3)] [.inr (.inr x0), .inl i166, .inl i165, .inl i164, .inl i163, .inr (.inr x1)] H = _
        refine Eq.trans (e1 hG PT_181 k181_167 _ _ _) ?_
        show G 181 168 [some (.inr (.inr x0)), some (.inr (.inr x1)), some (.inr (.inr x2)), some (.inl x3)] [.inl x3, .inr (.inr x0), .inl i166, .inl i165, .inl i164, .inl i163, .inr (.inr x1)] H = _
        refine Eq.trans (e1 hG PT_181 k181_168 _ _ _) ?_
        show G 181 169 [some (.inr (.inr x0)), some (.inr (.inr x1)), some (.inr (.inr x2)), some (.inl x3)] [.inl 5, .inl x3, .inr (.inr x0), .inl i166, .inl i165, .inl i164, .inl i163, .inr (.inr x1)] H = _
        refine Eq.trans (e1 hG PT_181 k181_169 _ _ _) ?_
        show G 181 170 [some (.inr (.inr x0)), some (.inr (.inr x1)), some (.inr (.inr x2)), some (.inl x3)] [.inl (x3 + 5), .inr (.inr x0), .inl i166, .inl i165, .inl i164, .inl i163, .inr (.inr x1)] H = _
        refine Eq.trans (e1 hG PT_181 k181_170 _ _ _) ?_
        refine bdc fun i167 => ?_
        show G 181 171 [some (.inr (.inr x0)), some (.inr (.inr x1)), some (.inr (.inr x2)), some (.inl x3)] [.inl i167, .inl i166, .inl i165, .inl i164, .inl i163, .inr (.inr x1)] H = _
        refine Eq.trans (e1 hG PT_181 k181_171 _ _ _) ?_
        show G 181 172 [some (.inr (.inr x0)), some (.inr (.inr x1)), some (.inr (.inr x2)), some (.inl x3)] [.inr (.inr x0), .inl i167, .inl i166, .inl i165, .inl i164, .inl i163, .inr (.inr x1)] H = _
        refine Eq.trans (e1 hG PT_181 k181_172 _ _ _) ?_
        show G 181 173 [some (.inr (.inr x0)), some (.inr (.inr x1)), some (.inr (.inr x2)), some (.inl x3)] [.inl x3, .inr (.inr x0), .inl i167, .inl i166, .inl i165, .inl i164, .inl i163, .inr (.inr x1)] H = _
        refine Eq.trans (e1 hG PT_181 k181_173 _ _ _) ?_
        show G 181 175 [some (.inr (.inr x0)), some (.inr (.inr x1)), some (.inr (.inr x2)), some (.inl x3)] [.inl 6, .inl x3, .inr (.inr x0), .inl i167, .inl i166, .inl i165, .inl i164, .inl i163, .inr (.inr x1)] H = _
        refine Eq.trans (e1 hG PT_181 k181_175 _ _ _) ?_
        show G 181 176 [some (.inr (.inr x0)), some (.inr (.inr x1)), some (.inr (.inr x2)), some (.inl x3)] [.inl (x3 + 6), .inr (.inr x0), .inl i167, .inl i166, .inl i165, .inl i164, .inl i163, .inr (.inr x1)] H = _
        refine Eq.trans (e1 hG PT_181 k181_176 _ _ _) ?_
        refine bdc fun i168 => ?_
        show G 181 177 [some (.inr (.inr x0)), some (.inr (.inr x1)), some (.inr (.inr x2)), some (.inl x3)] [.inl i168, .inl i167, .inl i166, .inl i165, .inl i164, .inl i163, .inr (.inr x1)] H = _
        refine Eq.trans (e1 hG PT_181 k181_177 _ _ _) ?_
        show G 181 178 [some (.inr (.inr x0)), some (.inr (.inr x1)), some (.inr (.inr x2)), some (.inl x3)] [.inr (.inr x0), .inl i168, .inl i167, .inl i166, .inl i165, .inl i164, .inl i163, .inr (.inr x1)] H = _
        refine Eq.trans (e1 hG PT_181 k181_178 _ _ _) ?_
        show G 181 179 [some (.inr (.inr x0)), some (.inr (.inr x1)), some (.inr (.inr x2)), some (.inl x3)] [.inl x3, .inr (.inr x0), .inl i168, .inl i167, .inl i166, .inl i165, .inl i164, .inl i163, .inr (.inr x1)] H = _
        refine Eq.trans (e1 hG PT_181 k181_179 _ _ _) ?_
        show G 181 181 [some (.inr (.inr x0)), some (.inr (.inr x1)), some (.inr (.inr x2)), some (.inl x3)] [.inl 7, .inl x3, .inr (.inr x0), .inl i168, .inl i167, .inl i166, .inl i165, .inl i164, .inl i163, .inr (.inr x1)] H = _
        refine Eq.trans (e1 hG PT_181 k181_181 _ _ _) ?_
        show G 181 182 [some (.inr (.inr x0)), some (.inr (.inr x1)), some (.inr (.inr x2)), some (.inl x3)] [.inl (x3 + 7), .inr (.inr x0), .inl i168, .inl i167, .inl i166, .inl i165, .inl i164, .inl i163, .inr (.inr x1)] H = _
        refine Eq.trans (e1 hG PT_181 k181_182 _ _ _) ?_
        refine bdc fun i169 => ?_
        show G 181 183 [some (.inr (.inr x0)), some (.inr (.inr x1)), some (.inr (.inr x2)), some (.inl x3)] [.inl i169, .inl i168, .inl i167, .inl i166, .inl i165, .inl i164, .inl i163, .inr (.inr x1)] H = _
        refine Eq.trans (e1 hG PT_181 k181_183 _ _ _) ?_
        refine bfc ?_ ?_
        · refine bdc fun u170 => ?_
          refine bdc fun i171 => ?_
          show G 181 186 [some (.inr (.inr x0)), some (.inr (.inr x1)), some (.inr (.inr x2)), some (.inl x3)] [.inl i171] u170.2 = _
          refine Eq.trans (e1 hG PT_181 k181_186 _ _ _) ?_
          show G 181 187 [some (.inr (.inr x0)), some (.inr (.inr x1)), some (.inr (.inr x2)), some (.inl x3)] [.inr (.inr x2), .inl i171] u170.2 = _
          refine Eq.trans (e1 hG PT_181 k181_187 _ _ _) ?_
          show G 181 188 [some (.inr (.inr x0)), some (.inr (.inr x1)), some (.inr (.inr x2)), some (.inl x3)] [.inr (.inr x0), .inr (.inr x2), .inl i171] u170.2 = _
          refine Eq.trans (e1 hG PT_181 k181_188 _ _ _) ?_
          show G 181 189 [some (.inr (.inr x0)), some (.inr (.inr x1)), some (.inr (.inr x2)), some (.inl x3)] [.inl x3, .inr (.inr x0), .inr (.inr x2), .inl i171] u170.2 = _
          refine Eq.trans (e1 hG PT_181 k181_189 _ _ _) ?_
          show G 181 190 [some (.inr (.inr x0)), some (.inr (.inr x1)), some (.inr (.inr x2)), some (.inl x3)] [.inl 1, .inl x3, .inr (.inr x0), .inr (.inr x2), .inl i171] u170.2 = _
          refine Eq.trans (e1 hG PT_181 k181_190 _ _ _) ?_
          show G 181 191 [some (.inr (.inr x0)), some (.inr (.inr x1)), some (.inr (.inr x2)), some (.inl x3)] [.inl (x3 + 1), .inr (.inr x0), .inr (.inr x2), .inl i171] u170.2 = _
          refine Eq.trans (e1 hG PT_181 k181_191 _ _ _) ?_
          refine bdc fun i172 => ?_
          show G 181 192 [some (.inr (.inr x0)), some (.inr (.inr x1)), some (.inr (.inr x2)), some (.inl x3)] [.inl i172, .inr (.inr x2), .inl i171] u170.2 = _
          refine Eq.trans (e1 hG PT_181 k181_192 _ _ _) ?_
          show G 181 193 [some (.inr (.inr x0)), some (.inr (.inr x1)), some (.inr (.inr x2)), some (.inl x3)] [.inr (.inr x0), .inl i172, .inr (.inr x2), .inl i171] u170.2 = _
          refine Eq.trans (e1 hG PT_181 k181_193 _ _ _) ?_
          show G 181 194 [some (.inr (.inr x0)), some (.inr (.inr x1)), some (.inr (.inr x2)), some (.inl x3)] [.inl x3, .inr (.inr x0), .inl i172, .inr (.inr x2), .inl i171] u170.2 = _
          refine Eq.trans (e1 hG PT_181 k181_194 _ _ _) ?_
          show G 181 195 [some (.inr (.inr x0)), some (.inr (.inr x1)), some (.inr (.inr x2)), some (.inl x3)] [.inl 2, .inl x3, .inr (.inr x0), .inl i172, .inr (.inr x2), .inl i171] u170.2 = _
          refine Eq.trans (e1 hG PT_181 k181_195 _ _ _) ?_
          show G 181 196 [some (.inr (.inr x0)), some (.inr (.inr x1)), some (.inr (.inr x2)), some (.inl x3)] [.inl (x3 + 2), .inr (.inr x0), .inl i172, .inr (.inr x2), .inl i171] u170.2 = _
          refine Eq.trans (e1 hG PT_181 k181_196 _ _ _) ?_
          refine bdc fun i173 => ?_
          show G 181 197 [some (.inr (.inr x0)), some (.inr (.inr x1)), some (.inr (.inr x2)), some (.inl x3)] [.inl i173, .inl i172, .inr (.inr x2), .inl i171] u170.2 = _
          refine Eq.trans (e1 hG PT_181 k181_197 _ _ _) ?_
          show G 181 198 [some (.inr (.inr x0)), some (.inr (.inr x1)), some (.inr (.inr x2)), some (.inl x3)] [.inr (.inr x0), .inl i173, .inl i172, .inr (.inr x2), .inl i171] u170.2 = _
          refine Eq.trans (e1 hG PT_181 k181_198 _ _ _) ?_
          show G 181 199 [some (.inr (.inr x0)), some (.inr (.inr x1)), some (.inr (.inr x2)), some (.inl x3)] [.inl x3, .inr (.inr x0), .inl i173, .inl i172, .inr (.inr x2), .inl i171] u170.2 = _
          refine Eq.trans (e1 hG PT_181 k181_199 _ _ _) ?_
          show G 181 200 [some (.inr (.inr x0)), some (.inr (.inr x1)), some (.inr (.inr x2)), some (.inl x3)] [.inl 3, .inl x3, .inr (.inr x0), .inl i173, .inl i172, .inr (.inr x2), .inl i171] u170.2 = _
          refine Eq.trans (e1 hG PT_181 k181_200 _ _ _) ?_
          show G 181 201 [some (.inr (.inr x0)), some (.inr (.inr x1)), some (.inr (.inr x2)), some (.inl x3)] [.inl (x3 + 3), .inr (.inr x0), .inl i173, .inl i172, .inr (.inr x2), .inl i171] u170.2 = _
          refine Eq.trans (e1 hG PT_181 k181_201 _ _ _) ?_
          refine bdc fun i174 => ?_
          show G 181 202 [some (.inr (.inr x0)), some (.inr (.inr x1)), some (.inr (.inr x2)), some (.inl x3)] [.inl i174, .inl i173, .inl i172, .inr (.inr x2), .inl i171] u170.2 = _
          refine Eq.trans (e1 hG PT_181 k181_202 _ _ _) ?_
          show G 181 203 [some (.inr (.inr x0)), some (.inr (.inr x1)), some (.inr (.inr x2)), some (.inl x3)] [.inr (.inr x0), .inl i174, .inl i173, .inl i172, .inr (.inr x2), .inl i171] u170.2 = _
          refine Eq.trans (e1 hG PT_181 k181_203 _ _ _) ?_
          show G 181 204 [some (.inr (.inr x0)), some (.inr (.inr x1)), some (.inr (.inr x2)), some (.inl x3)] [.inl x3, .inr (.inr x0), .inl i174, .inl i173, .inl i172, .inr (.inr x2), .inl i171] u170.2 = _
          refine Eq.trans (e1 hG PT_181 k181_204 _ _ _) ?_
          show G 181 205 [some (.inr (.inr x0)), some (.inr (.inr x1)), some (.inr (.inr x2)), some (.inl x3)] [.inl 4, .inl x3, .inr (.inr x0), .inl i174, .inl i173, .inl i172, .inr (.inr x2), .inl i171] u170.2 = _
          refine Eq.trans (e1 hG PT_181 k181_205 _ _ _) ?_
          show G 181 206 [some (.inr (.inr x0)), some (.inr (.inr x1)), some (.inr (.inr x2)), some (.inl x3)] [.inl (x3 + 4), .inr (.inr x0), .inl i174, .inl i173, .inl i172, .inr (.inr x2), .inl i171] u170.2 = _
          refine Eq.trans (e1 hG PT_181 k181_206 _ _ _) ?_
          refine bdc fun i175 => ?_
          show G 181 207 [some (.inr (.inr x0)), some (.inr (.inr x1)), some (.inr (.inr x2)), some (.inl x3)] [.inl i175, .inl i174, .inl i173, .inl i172, .inr (.inr x2), .inl i171] u170.2 = _
          refine Eq.trans (e1 hG PT_181 k181_207 _ _ _) ?_
          show G 181 208 [some (.inr (.inr x0)), some (.inr (.inr x1)), some (.inr (.inr x2)), some (.inl x3)] [.inr (.inr x0), .inl i175, .inl i174, .inl i173, .inl i172, .inr (.inr x2), .inl i171] u170.2 = _
          refine Eq.trans (e1 hG PT_181 k181_208 _ _ _) ?_
          show G 181 209 [some (.inr (.inr x0)), some (.inr (.inr x1)), some (.inr (.inr x2)), some (.inl x3)] [.inl x3, .inr (.inr x0), .inl i175, .inl i174, .inl i173, .inl i172, .inr (.inr x2), .inl i171] u170.2 = _
          refine Eq.trans (e1 hG PT_181 k181_209 _ _ _) ?_
          show G 181 210 [some (.inr (.inr x0)), some (.inr (.inr x1)), some (.inr (.inr x2)), some (.inl x3)] [.inl 5, .inl x3, .inr (.inr x0), .inl i175, .inl i174, .inl i173, .inl i172, .inr (.inr x2), .inl i171] u170.2 = _
          refine Eq.trans (e1 hG PT_181 k181_210 _ _ _) ?_
          show G 181 211 [some (.inr (.inr x0)), some (.inr (.inr x1)), some (.inr (.inr x2)), some (.inl x3)] [.inl (x3 + 5), .inr (.inr x0), .inl i175, .inl i174, .inl i173, .inl i172, .inr (.inr x2), .inl i171] u170.2 = _
          refine Eq.trans (e1 hG PT_181 k181_211 _ _ _) ?_
          refine bdc fun i176 => ?_
          show G 181 212 [some (.inr (.inr x0)), some (.inr (.inr x1)), some (.inr (.inr x2)), some (.inl x3)] [.inl i176, .inl i175, .inl i174, .inl i173, .inl i172, .inr (.inr x2), .inl i171] u170.2 = _
          refine Eq.trans (e1 hG PT_181 k181_212 _ _ _) ?_
          show G 181 213 [some (.inr (.inr x0)), some (.inr (.inr x1)), some (.inr (.inr x2)), some (.inl x3)] [.inr (.inr x0), .inl i176, .inl i175, .inl i174, .inl i173, .inl i172, .inr (.inr x2), .inl i171] u170.2 = _
          refine Eq.trans (e1 hG PT_181 k181_213 _ _ _) ?_
          show G 181 214 [some (.inr (.inr x0)), some (.inr (.inr x1)), some (.inr (.inr x2)), some (.inl x3)] [.inl x3, .inr (.inr x0), .inl i176, .inl i175, .inl i174, .inl i173, .inl i172, .inr (.inr x2), .inl i171] u170.2 = _
          refine Eq.trans (e1 hG PT_181 k181_214 _ _ _) ?_
          show G 181 216 [some (.inr (.inr x0)), some (.inr (.inr x1)), some (.inr (.inr x2)), some (.inl x3)] [.inl 6, .inl x3, .inr (.inr x0), .inl i176, .inl i175, .inl i174, .inl i173, .inl i172, .inr (.inr x2), .inl i171] u170.2 = _
          refine Eq.trans (e1 hG PT_181 k181_216 _ _ _) ?_
          show G 181 217 [some (.inr (.inr x0)), some (.inr (.inr x1)), some (.inr (.inr x2)), some (.inl x3)] [.inl (x3 + 6), .inr (.inr x0), .inl i176, .inl i175, .inl i174, .inl i173, .inl i172, .inr (.inr x2), .inl i171] u170.2 = _
          refine Eq.trans (e1 hG PT_181 k181_217 _ _ _) ?_
          refine bdc fun i177 => ?_
          show G 181 218 [some (.inr (.inr x0)), some (.inr (.inr x1)), some (.inr (.inr x2)), some (.inl x3)] [.inl i177, .inl i176, .inl i175, .inl i174, .inl i173, .inl i172, .inr (.inr x2), .inl i171] u170.2 = _
          refine Eq.trans (e1 hG PT_181 k181_218 _ _ _) ?_
          show G 181 219 [some (.inr (.inr x0)), some (.inr (.inr x1)), some (.inr (.inr x2)), some (.inl x3)] [.inr (.inr x0), .inl i177, .inl i176, .inl i175, .inl i174, .inl i173, .inl i172, .inr (.inr x2), .inl i171] u170.2 = _
          refine Eq.trans (e1 hG PT_181 k181_219 _ _ _) ?_
          show G 181 220 [some (.inr (.inr x0)), some (.inr (.inr x1)), some (.inr (.inr x2)), some (.inl x3)] [.inl x3, .inr (.inr x0), .inl i177, .inl i176, .inl i175, .inl i174, .inl i173, .inl i172, .inr (.inr x2), .inl i171] u170.2 = _
          refine Eq.trans (e1 hG PT_181 k181_220 _ _ _) ?_
          show G 181 222 [some (.inr (.inr x0)), some (.inr (.inr x1)), some (.inr (.inr x2)), some (.inl x3)] [.inl 7, .inl x3, .inr (.inr x0), .inl i177, .inl i176, .inl i175, .inl i174, .inl i173, .inl i172, .inr (.inr x2), .inl i171] u170.2 = _
          refine Eq.trans (e1 hG PT_181 k181_222 _ _ _) ?_
          show G 181 223 [some (.inr (.inr x0)), some (.inr (.inr x1)), some (.inr (.inr x2)), some (.inl x3)] [.inl (x3 + 7), .inr (.inr x0), .inl i177, .inl i176, .inl i175, .inl i174, .inl i173, .inl i172, .inr (.inr x2), .inl i171] u170.2 = _
          refine Eq.trans (e1 hG PT_181 k181_223 _ _ _) ?_
          refine bdc fun i178 => ?_
          show G 181 224 [some (.inr (.inr x0)), some (.inr (.inr x1)), some (.inr (.inr x2)), some (.inl x3)] [.inl i178, .inl i177, .inl i176, .inl i175, .inl i174, .inl i173, .inl i172, .inr (.inr x2), .inl i171] u170.2 = _
          refine Eq.trans (e1 hG PT_181 k181_224 _ _ _) ?_
          refine bfc ?_ ?_
          · refine bdc fun u179 => ?_
            refine bdc fun i180 => ?_
            show G 181 227 [some (.inr (.inr x0)), some (.inr (.inr x1)), some (.inr (.inr x2)), some (.inl x3)] [.inl i180, .inl i171] u179.2 = _
            refine Eq.trans (e1 hG PT_181 k181_227 _ _ _) ?_
            refine bfc ?_ ?_
            · rfl
            · show G 181 230 [some (.inr (.inr x0)), some (.inr (.inr x1)), some (.inr (.inr x2)), some (.inl x3)] [] u179.2 = _
              refine Eq.trans (e1 hG PT_181 k181_230 _ _ _) ?_
              show G 181 231 [some (.inr (.inr x0)), some (.inr (.inr x1)), some (.inr (.inr x2)), some (.inl x3)] [.inl 0] u179.2 = _
              exact e1 hG PT_181 k181_231 _ _ _
          · rfl
        · rfl
      · refine bfc ?_ ?_
        · show G 181 232 [some (.inr (.inr x0)), some (.inr (.inr x1)), some (.inr (.inr x2)), some (.inl x3)] [] H = _
          refine Eq.trans (e1 hG PT_181 k181_232 _ _ _) ?_
          show G 181 233 [some (.inr (.inr x0)), some (.inr (.inr x1)), some (.inr (.inr x2)), some (.inl x3)] [.inr (.inr x1)] H = _
          refine Eq.trans (e1 hG PT_181 k181_233 _ _ _) ?_
          show G 181 234 [some (.inr (.inr x0)), some (.inr (.inr x1)), some (.inr (.inr x2)), some (.inl x3)] [.inr (.inr x0), .inr (.inr x1)] H = _
          refine Eq.trans (e1 hG PT_181 k181_234 _ _ _) ?_
          show G 181 235 [some (.inr (.inr x0)), some (.inr (.inr x1)), some (.inr (.inr x2)), some (.inl x3)] [.inl x3, .inr (.inr x0), .inr (.inr x1)] H = _
          refine Eq.trans (e1 hG PT_181 k181_235 _ _ _) ?_
          show G 181 236 [some (.inr (.inr x0)), some (.inr (.inr x1)), some (.inr (.inr x2)), some (.inl x3)] [.inl 1, .inl x3, .inr (.inr x0), .inr (.inr x1)] H = _
          refine Eq.trans (e1 hG PT_181 k181_236 _ _ _) ?_
          show G 181 237 [some (.inr (.inr x0)), some (.inr (.inr x1)), some (.inr (.inr x2)), some (.inl x3)] [.inl (x3 + 1), .inr (.inr x0), .inr (.inr x1)] H = _
          refine Eq.trans (e1 hG PT_181 k181_237 _ _ _) ?_
          refine bdc fun i155 => ?_
          show G 181 238 [some (.inr (.inr x0)), some (.inr (.inr x1)), some (.inr (.inr x2)), some (.inl x3)] [.inl i155, .inr (.inr x1)] H = _
          refine Eq.trans (e1 hG PT_181 k181_238 _ _ _) ?_
          show G 181 239 [some (.inr (.inr x0)), some (.inr (.inr x1)), some (.inr (.inr x2)), some (.inl x3)] [.inr (.inr x0), .inl i155, .inr (.inr x1)] H = _
          refine Eq.trans (e1 hG PT_181 k181_239 _ _ _) ?_
          show G 181 240 [some (.inr (.inr x0)), some (.inr (.inr x1)), some (.inr (.inr x2)), some (.inl x3)] [.inl x3, .inr (.inr x0), .inl i155, .inr (.inr x1)] H = _
          refine Eq.trans (e1 hG PT_181 k181_240 _ _ _) ?_
          show G 181 241 [some (.inr (.inr x0)), some (.inr (.inr x1)), some (.inr (.inr x2)), some (.inl x3)] [.inl 2, .inl x3, .inr (.inr x0), .inl i155, .inr (.inr x1)] H = _
          refine Eq.trans (e1 hG PT_181 k181_241 _ _ _) ?_
          show G 181 242 [some (.inr (.inr x0)), some (.inr (.inr x1)), some (.inr (.inr x2)), some (.inl x3)] [.inl (x3 + 2), .inr (.inr x0), .inl i155, .inr (.inr x1)] H = _
          refine Eq.trans (e1 hG PT_181 k181_242 _ _ _) ?_
          refine bdc fun i156 => ?_
          show G 181 243 [some (.inr (.inr x0)), some (.inr (.inr x1)), some (.inr (.inr x2)), some (.inl x3)] [.inl i156, .inl i155, .inr (.inr x1)] H = _
          refine Eq.trans (e1 hG PT_181 k181_243 _ _ _) ?_
          refine bfc ?_ ?_
          · refine bdc fun u157 => ?_
            refine bdc fun i158 => ?_
            show G 181 246 [some (.inr (.inr x0)), some (.inr (.inr x1)), some (.inr (.inr x2)), some (.inl x3)] [.inl i158] u157.2 = _
            refine Eq.trans (e1 hG PT_181 k181_246 _ _ _) ?_
            show G 181 247 [some (.inr (.inr x0)), some (.inr (.inr x1)), some (.inr (.inr x2)), some (.inl x3)] [.inr (.inr x2), .inl i158] u157.2 = _
            refine Eq.trans (e1 hG PT_181 k181_247 _ _ _) ?_
            show G 181 248 [some (.inr (.inr x0)), some (.inr (.inr x1)), some (.inr (.inr x2)), some (.inl x3)] [.inr (.inr x0), .inr (.inr x2), .inl i158] u157.2 = _
            refine Eq.trans (e1 hG PT_181 k181_248 _ _ _) ?_
            show G 181 249 [some (.inr (.inr x0)), some (.inr (.inr x1)), some (.inr (.inr x2)), some (.inl x3)] [.inl x3, .inr (.inr x0), .inr (.inr x2), .inl i158] u157.2 = _
            refine Eq.trans (e1 hG PT_181 k181_249 _ _ _) ?_
            show G 181 250 [some (.inr (.inr x0)), some (.inr (.inr x1)), some (.inr (.inr x2)), some (.inl x3)] [.inl 1, .inl x3, .inr (.inr x0), .inr (.inr x2), .inl i158] u157.2 = _
            refine Eq.trans (e1 hG PT_181 k181_250 _ _ _) ?_
            show G 181 251 [some (.inr (.inr x0)), some (.inr (.inr x1)), some (.inr (.inr x2)), some (.inl x3)] [.inl (x3 + 1), .inr (.inr x0), .inr (.inr x2), .inl i158] u157.2 = _
            refine Eq.trans (e1 hG PT_181 k181_251 _ _ _) ?_
            refine bdc fun i159 => ?_
            show G 181 252 [some (.inr (.inr x0)), some (.inr (.inr x1)), some (.inr (.inr x2)), some (.inl x3)] [.inl i159, .inr (.inr x2), .inl i158] u157.2 = _
            refine Eq.trans (e1 hG PT_181 k181_252 _ _ _) ?_
            show G 181 253 [some (.inr (.inr x0)), some (.inr (.inr x1)), some (.inr (.inr x2)), some (.inl x3)] [.inr (.inr x0), .inl i159, .inr (.inr x2), .inl i158] u157.2 = _
            refine Eq.trans (e1 hG PT_181 k181_253 _ _ _) ?_
            show G 181 254 [some (.inr (.inr x0)), some (.inr (.inr x1)), some (.inr (.inr x2)), some (.inl x3)] [.inl x3, .inr (.inr x0), .inl i159, .inr (.inr x2), .inl i158] u157.2 = _
            refine Eq.trans (e1 hG PT_181 k181_254 _ _ _) ?_
            show G 181 255 [some (.inr (.inr x0)), some (.inr (.inr x1)), some (.inr (.inr x2)), some (.inl x3)] [.inl 2, .inl x3, .inr (.inr x0), .inl i159, .inr (.inr x2), .inl i158] u157.2 = _
            refine Eq.trans (e1 hG PT_181 k181_255 _ _ _) ?_
            show G 181 256 [some (.inr (.inr x0)), some (.inr (.inr x1)), some (.inr (.inr x2)), some (.inl x3)] [.inl (x3 + 2), .inr (.inr x0), .inl i159, .inr (.inr x2), .inl i158] u157.2 = _
            refine Eq.trans (e1 hG PT_181 k181_256 _ _ _) ?_
            refine bdc fun i160 => ?_
            show G 181 257 [some (.inr (.inr x0)), some (.inr (.inr x1)), some (.inr (.inr x2)), some (.inl x3)] [.inl i160, .inl i159, .inr (.inr x2), .inl i158] u157.2 = _
            refine Eq.trans (e1 hG PT_181 k181_257 _ _ _) ?_
            refine bfc ?_ ?_
            · refine bdc fun u161 => ?_
              refine bdc fun i162 => ?_
              show G 181 260 [some (.inr (.inr x0)), some (.inr (.inr x1)), some (.inr (.inr x2)), some (.inl x3)] [.inl i162, .inl i158] u161.2 = _
              refine Eq.trans (e1 hG PT_181 k181_260 _ _ _) ?_
              refine bfc ?_ ?_
              · rfl
              · show G 181 263 [some (.inr (.inr x0)), some (.inr (.inr x1)), some (.inr (.inr x2)), some (.inl x3)] [] u161.2 = _
                refine Eq.trans (e1 hG PT_181 k181_263 _ _ _) ?_
                show G 181 264 [some (.inr (.inr x0)), some (.inr (.inr x1)), some (.inr (.inr x2)), some (.inl x3)] [.inl 0] u161.2 = _
                exact e1 hG PT_181 k181_264 _ _ _
            · rfl
          · rfl
        · refine bfc ?_ ?_
          · show G 181 265 [some (.inr (.inr x0)), some (.inr (.inr x1)), some (.inr (.inr x2)), some (.inl x3)] [] H = _
            refine Eq.trans (e1 hG PT_181 k181_265 _ _ _) ?_
            show G 181 266 [some (.inr (.inr x0)), some (.inr (.inr x1)), some (.inr (.inr x2)), some (.inl x3)] [.inr (.inr x1)] H = _
            refine Eq.trans (e1 hG PT_181 k181_266 _ _ _) ?_
            show G 181 267 [some (.inr (.inr x0)), some (.inr (.inr x1)), some (.inr (.inr x2)), some (.inl x3)] [.inr (.inr x0), .inr (.inr x1)] H = _
            refine Eq.trans (e1 hG PT_181 k181_267 _ _ _) ?_
            show G 181 268 [some (.inr (.inr x0)), some (.inr (.inr x1)), some (.inr (.inr x2)), some (.inl x3)] [.inl x3, .inr (.inr x0), .inr (.inr x1)] H = _
            refine Eq.trans (e1 hG PT_181 k181_268 _ _ _) ?_
            show G 181 269 [some (.inr (.inr x0)), some (.inr (.inr x1)), some (.inr (.inr x2)), some (.inl x3)] [.inl 1, .inl x3, .inr (.inr x0), .inr (.inr x1)] H = _
            refine Eq.trans (e1 hG PT_181 k181_269 _ _ _) ?_
            show G 181 270 [some (.inr (.inr x0)), some (.inr (.inr x1)), some (.inr (.inr x2)), some (.inl x3)] [.inl (x3 + 1), .inr (.inr x0), .inr (.inr x1)] H = _
            refine Eq.trans (e1 hG PT_181 k181_270 _ _ _) ?_
            refine bdc fun i149 => ?_
            show G 181 271 [some (.inr (.inr x0)), some (.inr (.inr x1)), some (.inr (.inr x2)), some (.inl x3)] [.inl i149, .inr (.inr x1)] H = _
            refine Eq.trans (e1 hG PT_181 k181_271 _ _ _) ?_
            refine bfc ?_ ?_
            · refine bdc fun u150 => ?_
              refine bdc fun i151 => ?_
              show G 181 274 [some (.inr (.inr x0)), some (.inr (.inr x1)), some (.inr (.inr x2)), some (.inl x3)] [.inl i151] u150.2 = _
              refine Eq.trans (e1 hG PT_181 k181_274 _ _ _) ?_
              show G 181 275 [some (.inr (.inr x0)), some (.inr (.inr x1)), some (.inr (.inr x2)), some (.inl x3)] [.inr (.inr x2), .inl i151] u150.2 = _
              refine Eq.trans (e1 hG PT_181 k181_275 _ _ _) ?_
              show G 181 276 [some (.inr (.inr x0)), some (.inr (.inr x1)), some (.inr (.inr x2)), some (.inl x3)] [.inr (.inr x0), .inr (.inr x2), .inl i151] u150.2 = _
              refine Eq.trans (e1 hG PT_181 k181_276 _ _ _) ?_
              show G 181 277 [some (.inr (.inr x0)), some (.inr (.inr x1)), some (.inr (.inr x2)), some (.inl x3)] [.inl x3, .inr (.inr x0), .inr (.inr x2), .inl i151] u150.2 = _
              refine Eq.trans (e1 hG PT_181 k181_277 _ _ _) ?_
              show G 181 278 [some (.inr (.inr x0)), some (.inr (.inr x1)), some (.inr (.inr x2)), some (.inl x3)] [.inl 1, .inl x3, .inr (.inr x0), .inr (.inr x2), .inl i151] u150.2 = _
              refine Eq.trans (e1 hG PT_181 k181_278 _ _ _) ?_
              show G 181 279 [some (.inr (.inr x0)), some (.inr (.inr x1)), some (.inr (.inr x2)), some (.inl x3)] [.inl (x3 + 1), .inr (.inr x0), .inr (.inr x2), .inl i151] u150.2 = _
              refine Eq.trans (e1 hG PT_181 k181_279 _ _ _) ?_
              refine bdc fun i152 => ?_
              show G 181 280 [some (.inr (.inr x0)), some (.inr (.inr x1)), some (.inr (.inr x2)), some (.inl x3)] [.inl i152, .inr (.inr x2), .inl i151] u150.2 = _
              refine Eq.trans (e1 hG PT_181 k181_280 _ _ _) ?_
              refine bfc ?_ ?_
              · refine bdc fun u153 => ?_
                refine bdc fun i154 => ?_
                show G 181 283 [some (.inr (.inr x0)), some (.inr (.inr x1)), some (.inr (.inr x2)), some (.inl x3)] [.inl i154, .inl i151] u153.2 = _
                refine Eq.trans (e1 hG PT_181 k181_283 _ _ _) ?_
                refine bfc ?_ ?_
                · rfl
                · show G 181 286 [some (.inr (.inr x0)), some (.inr (.inr x1)), some (.inr (.inr x2)), some (.inl x3)] [] u153.2 = _
                  refine Eq.trans (e1 hG PT_181 k181_286 _ _ _) ?_
                  show G 181 287 [some (.inr (.inr x0)), some (.inr (.inr x1)), some (.inr (.inr x2)), some (.inl x3)] [.inl 0] u153.2 = _
                  exact e1 hG PT_181 k181_287 _ _ _
              · rfl
            · rfl
          · refine bfc ?_ ?_
            · show G 181 288 [some (.inr (.inr x0)), some (.inr (.inr x1)), some (.inr (.inr x2)), some (.inl x3)] [] H = _
              refine Eq.trans (e1 hG PT_181 k181_288 _ _ _) ?_
              show G 181 289 [some (.inr (.inr x0)), some (.inr (.inr x1)), some (.inr (.inr x2)), some (.inl x3)] [.inr (.inr x1)] H = _
              refine Eq.trans (e1 hG PT_181 k181_289 _ _ _) ?_
              show G 181 290 [some (.inr (.inr x0)), some (.inr (.inr x1)), some (.inr (.inr x2)), some (.inl x3)] [.inr (.inr x0), .inr (.inr x1)] H = _
              refine Eq.trans (e1 hG PT_181 k181_290 _ _ _) ?_
              show G 181 291 [some (.inr (.inr x0)), some (.inr (.inr x1)), some (.inr (.inr x2)), some (.inl x3)] [.inl x3, .inr (.inr x0), .inr (.inr x1)] H = _
              refine Eq.trans (e1 hG PT_181 k181_291 _ _ _) ?_
              show G 181 292 [some (.inr (.inr x0)), some (.inr (.inr x1)), some (.inr (.inr x2)), some (.inl x3)] [.inl 1, .inl x3, .inr (.inr x0), .inr (.inr x1)] H = _
              refine Eq.trans (e1 hG PT_181 k181_292 _ _ _) ?_
              show G 181 293 [some (.inr (.inr x0)), some (.inr (.inr x1)), some (.inr (.inr x2)), some (.inl x3)] [.inl (x3 + 1), .inr (.inr x0), .inr (.inr x1)] H = _
              refine Eq.trans (e1 hG PT_181 k181_293 _ _ _) ?_
              refine bdc fun i141 => ?_
              show G 181 294 [some (.inr (.inr x0)), some (.inr (.inr x1)), some (.inr (.inr x2)), some (.inl x3)] [.inl i141, .inr (.inr x1)] H = _
              refine Eq.trans (e1 hG PT_181 k181_294 _ _ _) ?_
              show G 181 295 [some (.inr (.inr x0)), some (.inr (.inr x1)), some (.inr (.inr x2)), some (.inl x3)] [.inr (.inr x0), .inl i141, .inr (.inr x1)] H = _
              refine Eq.trans (e1 hG PT_181 k181_295 _ _ _) ?_
              show G 181 296 [some (.inr (.inr x0)), some (.inr (.inr x1)), some (.inr (.inr x2)), some (.inl x3)] [.inl x3, .inr (.inr x0), .inl i141, .inr (.inr x1)] H = _
              refine Eq.trans (e1 hG PT_181 k181_296 _ _ _) ?_
              show G 181 297 [some (.inr (.inr x0)), some (.inr (.inr x1)), some (.inr (.inr x2)), some (.inl x3)] [.inl 2, .inl x3, .inr (.inr x0), .inl i141, .inr (.inr x1)] H = _
              refine Eq.trans (e1 hG PT_181 k181_297 _ _ _) ?_
              show G 181 298 [some (.inr (.inr x0)), some (.inr (.inr x1)), some (.inr (.inr x2)), some (.inl x3)] [.inl (x3 + 2), .inr (.inr x0), .inl i141, .inr (.inr x1)] H = _
              refine Eq.trans (e1 hG PT_181 k181_298 _ _ _) ?_
              refine bdc fun i142 => ?_
              show G 181 299 [some (.inr (.inr x0)), some (.inr (.inr x1)), some (.inr (.inr x2)), some (.inl x3)] [.inl i142, .inl i141, .inr (.inr x1)] H = _
              refine Eq.trans (e1 hG PT_181 k181_299 _ _ _) ?_
              refine bfc ?_ ?_
              · refine bdc fun u143 => ?_
                refine bdc fun i144 => ?_
                show G 181 302 [some (.inr (.inr x0)), some (.inr (.inr x1)), some (.inr (.inr x2)), some (.inl x3)] [.inl i144] u143.2 = _
                refine Eq.trans (e1 hG PT_181 k181_302 _ _ _) ?_
                show G 181 303 [some (.inr (.inr x0)), some (.inr (.inr x1)), some (.inr (.inr x2)), some (.inl x3)] [.inr (.inr x2), .inl i144] u143.2 = _
                refine Eq.trans (e1 hG PT_181 k181_303 _ _ _) ?_
                show G 181 304 [some (.inr (.inr x0)), some (.inr (.inr x1)), some (.inr (.inr x2)), some (.inl x3)] [.inr (.inr x0), .inr (.inr x2), .inl i144] u143.2 = _
                refine Eq.trans (e1 hG PT_181 k181_304 _ _ _) ?_
                show G 181 305 [some (.inr (.inr x0)), some (.inr (.inr x1)), some (.inr (.inr x2)), some (.inl x3)] [.inl x3, .inr (.inr x0), .inr (.inr x2), .inl i144] u143.2 = _
                refine Eq.trans (e1 hG PT_181 k181_305 _ _ _) ?_
                show G 181 306 [some (.inr (.inr x0)), some (.inr (.inr x1)), some (.inr (.inr x2)), some (.inl x3)] [.inl 1, .inl x3, .inr (.inr x0), .inr (.inr x2), .inl i144] u143.2 = _
                refine Eq.trans (e1 hG PT_181 k181_306 _ _ _) ?_
                show G 181 307 [some (.inr (.inr x0)), some (.inr (.inr x1)), some (.inr (.inr x2)), some (.inl x3)] [.inl (x3 + 1), .inr (.inr x0), .inr (.inr x2), .inl i144] u143.2 = _
                refine Eq.trans (e1 hG PT_181 k181_307 _ _ _) ?_
                refine bdc fun i145 => ?_
                show G 181 308 [some (.inr (.inr x0)), some (.inr (.inr x1)), some (.inr (.inr x2)), some (.inl x3)] [.inl i145, .inr (.inr x2), .inl i144] u143.2 = _
                refine Eq.trans (e1 hG PT_181 k181_308 _ _ _) ?_
                show G 181 309 [some (.inr (.inr x0)), some (.inr (.inr x1)), some (.inr (.inr x2)), some (.inl x3)] [.inr (.inr x0), .inl i145, .inr (.inr x2), .inl i144] u143.2 = _
                refine Eq.trans (e1 hG PT_181 k181_309 _ _ _) ?_
                show G 181 310 [some (.inr (.inr x0)), some (.inr (.inr x1)), some (.inr (.inr x2)), some (.inl x3)] [.inl x3, .inr (.inr x0), .inl i145, .inr (.inr x2), .inl i144] u143.2 = _
                refine Eq.trans (e1 hG PT_181 k181_310 _ _ _) ?_
                show G 181 311 [some (.inr (.inr x0)), some (.inr (.inr x1)), some (.inr (.inr x2)), some (.inl x3)] [.inl 2, .inl x3, .inr (.inr x0), .inl i145, .inr (.inr x2), .inl i144] u143.2 = _
                refine Eq.trans (e1 hG PT_181 k181_311 _ _ _) ?_
                show G 181 312 [some (.inr (.inr x0)), some (.inr (.inr x1)), some (.inr (.inr x2)), some (.inl x3)] [.inl (x3 + 2), .inr (.inr x0), .inl i145, .inr (.inr x2), .inl i144] u143.2 = _
                refine Eq.trans (e1 hG PT_181 k181_312 _ _ _) ?_
                refine bdc fun i146 => ?_
                show G 181 313 [some (.inr (.inr x0)), some (.inr (.inr x1)), some (.inr (.inr x2)), some (.inl x3)] [.inl i146, .inl i145, .inr (.inr x2), .inl i144] u143.2 = _
                refine Eq.trans (e1 hG PT_181 k181_313 _ _ _) ?_
                refine bfc ?_ ?_
                · refine bdc fun u147 => ?_
                  refine bdc fun i148 => ?_
                  show G 181 316 [some (.inr (.inr x0)), some (.inr (.inr x1)), some (.inr (.inr x2)), some (.inl x3)] [.inl i148, .inl i144] u147.2 = _
                  refine Eq.trans (e1 hG PT_181 k181_316 _ _ _) ?_
                  refine bfc ?_ ?_
                  · rfl
                  · show G 181 319 [some (.inr (.inr x0)), some (.inr (.inr x1)), some (.inr (.inr x2)), some (.inl x3)] [] u147.2 = _
                    refine Eq.trans (e1 hG PT_181 k181_319 _ _ _) ?_
                    show G 181 320 [some (.inr (.inr x0)), some (.inr (.inr x1)), some (.inr (.inr x2)), some (.inl x3)] [.inl 0] u147.2 = _
                    exact e1 hG PT_181 k181_320 _ _ _
                · rfl
              · rfl
            · refine bfc ?_ ?_
              · show G 181 321 [some (.inr (.inr x0)), some (.inr (.inr x1)), some (.inr (.inr x2)), some (.inl x3)] [] H = _
                refine Eq.trans (e1 hG PT_181 k181_321 _ _ _) ?_
                show G 181 322 [some (.inr (.inr x0)), some (.inr (.inr x1)), some (.inr (.inr x2)), some (.inl x3)] [.inr (.inr x1)] H = _
                refine Eq.trans (e1 hG PT_181 k181_322 _ _ _) ?_
                show G 181 323 [some (.inr (.inr x0)), some (.inr (.inr x1)), some (.inr (.inr x2)), some (.inl x3)] [.inr (.inr x0), .inr (.inr x1)] H = _
                refine Eq.trans (e1 hG PT_181 k181_323 _ _ _) ?_
                show G 181 324 [some (.inr (.inr x0)), some (.inr (.inr x1)), some (.inr (.inr x2)), some (.inl x3)] [.inl x3, .inr (.inr x0), .inr (.inr x1)] H = _
                refine Eq.trans (e1 hG PT_181 k181_324 _ _ _) ?_
                show G 181 325 [some (.inr (.inr x0)), some (.inr (.inr x1)), some (.inr (.inr x2)), some (.inl x3)] [.inl 1, .inl x3, .inr (.inr x0), .inr (.inr x1)] H = _
                refine Eq.trans (e1 hG PT_181 k181_325 _ _ _) ?_
                show G 181 326 [some (.inr (.inr x0)), some (.inr (.inr x1)), some (.inr (.inr x2)), some (.inl x3)] [.inl (x3 + 1), .inr (.inr x0), .inr (.inr x1)] H = _
                refine Eq.trans (e1 hG PT_181 k181_326 _ _ _) ?_
                refine bdc fun i135 => ?_
                show G 181 327 [some (.inr (.inr x0)), some (.inr (.inr x1)), some (.inr (.inr x2)), some (.inl x3)] [.inl i135, .inr (.inr x1)] H = _
                refine Eq.trans (e1 hG PT_181 k181_327 _ _ _) ?_
                refine bfc ?_ ?_
                · refine bdc fun u136 => ?_
                  refine bdc fun i137 => ?_
                  show G 181 330 [some (.inr (.inr x0)), some (.inr (.inr x1)), some (.inr (.inr x2)), some (.inl x3)] [.inl i137] u136.2 = _
                  refine Eq.trans (e1 hG PT_181 k181_330 _ _ _) ?_
                  show G 181 331 [some (.inr (.inr x0)), some (.inr (.inr x1)), some (.inr (.inr x2)), some (.inl x3)] [.inr (.inr x2), .inl i137] u136.2 = _
                  refine Eq.trans (e1 hG PT_181 k181_331 _ _ _) ?_
                  show G 181 332 [some (.inr (.inr x0)), some (.inr (.inr x1)), some (.inr (.inr x2)), some (.inl x3)] [.inr (.inr x0), .inr (.inr x2), .inl i137] u136.2 = _
                  refine Eq.trans (e1 hG PT_181 k181_332 _ _ _) ?_
                  show G 181 333 [some (.inr (.inr x0)), some (.inr (.inr x1)), some (.inr (.inr x2)), some (.inl x3)] [.inl x3, .inr (.inr x0), .inr (.inr x2), .inl i137] u136.2 = _
                  refine Eq.trans (e1 hG PT_181 k181_333 _ _ _) ?_
                  show G 181 334 [some (.inr (.inr x0)), some (.inr (.inr x1)), some (.inr (.inr x2)), some (.inl x3)] [.inl 1, .inl x3, .inr (.inr x0), .inr (.inr x2), .inl i137] u136.2 = _
                  refine Eq.trans (e1 hG PT_181 k181_334 _ _ _) ?_
                  show G 181 335 [some (.inr (.inr x0)), some (.inr (.inr x1)), some (.inr (.inr x2)), some (.inl x3)] [.inl (x3 + 1), .inr (.inr x0), .inr (.inr x2), .inl i137] u136.2 = _
                  refine Eq.trans (e1 hG PT_181 k181_335 _ _ _) ?_
                  refine bdc fun i138 => ?_
                  show G 181 336 [some (.inr (.inr x0)), some (.inr (.inr x1)), some (.inr (.inr x2)), some (.inl x3)] [.inl i138, .inr (.inr x2), .inl i137] u136.2 = _
                  refine Eq.trans (e1 hG PT_181 k181_336 _ _ _) ?_
                  refine bfc ?_ ?_
                  · refine bdc fun u139 => ?_
                    refine bdc fun i140 => ?_
                    show G 181 339 [some (.inr (.inr x0)), some (.inr (.inr x1)), some (.inr (.inr x2)), some (.inl x3)] [.inl i140, .inl i137] u139.2 = _
                    refine Eq.trans (e1 hG PT_181 k181_339 _ _ _) ?_
                    refine bfc ?_ ?_
                    · rfl
                    · show G 181 342 [some (.inr (.inr x0)), some (.inr (.inr x1)), some (.inr (.inr x2)), some (.inl x3)] [] u139.2 = _
                      refine Eq.trans (e1 hG PT_181 k181_342 _ _ _) ?_
                      show G 181 343 [some (.inr (.inr x0)), some (.inr (.inr x1)), some (.inr (.inr x2)), some (.inl x3)] [.inl 0] u139.2 = _
                      exact e1 hG PT_181 k181_343 _ _ _
                  · rfl
                · rfl
              · refine bfc ?_ ?_
                · show G 181 344 [some (.inr (.inr x0)), some (.inr (.inr x1)), some (.inr (.inr x2)), some (.inl x3)] [] H = _
                  refine Eq.trans (e1 hG PT_181 k181_344 _ _ _) ?_
                  show G 181 345 [some (.inr (.inr x0)), some (.inr (.inr x1)), some (.inr (.inr x2)), some (.inl x3)] [.inr (.inr x1)] H = _
                  refine Eq.trans (e1 hG PT_181 k181_345 _ _ _) ?_
                  show G 181 346 [some (.inr (.inr x0)), some (.inr (.inr x1)), some (.inr (.inr x2)), some (.inl x3)] [.inr (.inr x0), .inr (.inr x1)] H = _
                  refine Eq.trans (e1 hG PT_181 k181_346 _ _ _) ?_
                  show G 181 347 [some (.inr (.inr x0)), some (.inr (.inr x1)), some (.inr (.inr x2)), some (.inl x3)] [.inl x3, .inr (.inr x0), .inr (.inr x1)] H = _
                  refine Eq.trans (e1 hG PT_181 k181_347 _ _ _) ?_
                  show G 181 348 [some (.inr (.inr x0)), some (.inr (.inr x1)), some (.inr (.inr x2)), some (.inl x3)] [.inl 1, .inl x3, .inr (.inr x0), .inr (.inr x1)] H = _
                  refine Eq.trans (e1 hG PT_181 k181_348 _ _ _) ?_
                  show G 181 349 [some (.inr (.inr x0)), some (.inr (.inr x1)), some (.inr (.inr x2)), some (.inl x3)] [.inl (x3 + 1), .inr (.inr x0), .inr (.inr x1)] H = _
                  refine Eq.trans (e1 hG PT_181 k181_349 _ _ _) ?_
                  refine bdc fun i127 => ?_
                  show G 181 350 [some (.inr (.inr x0)), some (.inr (.inr x1)), some (.inr (.inr x2)), some (.inl x3)] [.inl i127, .inr (.inr x1)] H = _
                  refine Eq.trans (e1 hG PT_181 k181_350 _ _ _) ?_
                  show G 181 351 [some (.inr (.inr x0)), some (.inr (.inr x1)), some (.inr (.inr x2)), some (.inl x3)] [.inr (.inr x0), .inl i127, .inr (.inr x1)] H = _
                  refine Eq.trans (e1 hG PT_181 k181_351 _ _ _) ?_
                  show G 181 352 [some (.inr (.inr x0)), some (.inr (.inr x1)), some (.inr (.inr x2)), some (.inl x3)] [.inl x3, .inr (.inr x0), .inl i127, .inr (.inr x1)] H = _
                  refine Eq.trans (e1 hG PT_181 k181_352 _ _ _) ?_
                  show G 181 353 [some (.inr (.inr x0)), some (.inr (.inr x1)), some (.inr (.inr x2)), some (.inl x3)] [.inl 2, .inl x3, .inr (.inr x0), .inl i127, .inr (.inr x1)] H = _
                  refine Eq.trans (e1 hG PT_181 k181_353 _ _ _) ?_
                  show G 181 354 [some (.inr (.inr x0)), some (.inr (.inr x1)), some (.inr (.inr x2)), some (.inl x3)] [.inl (x3 + 2), .inr (.inr x0), .inl i127, .inr (.inr x1)] H = _
                  refine Eq.trans (e1 hG PT_181 k181_354 _ _ _) ?_
                  refine bdc fun i128 => ?_
                  show G 181 355 [some (.inr (.inr x0)), some (.inr (.inr x1)), some (.inr (.inr x2)), some (.inl x3)] [.inl i128, .inl i127, .inr (.inr x1)] H = _
                  refine Eq.trans (e1 hG PT_181 k181_355 _ _ _) ?_
                  refine bfc ?_ ?_
                  · refine bdc fun u129 => ?_
                    refine bdc fun i130 => ?_
                    show G 181 358 [some (.inr (.inr x0)), some (.inr (.inr x1)), some (.inr (.inr x2)), some (.inl x3)] [.inl i130] u129.2 = _
                    refine Eq.trans (e1 hG PT_181 k181_358 _ _ _) ?_
                    show G 181 359 [some (.inr (.inr x0)), some (.inr (.inr x1)), some (.inr (.inr x2)), some (.inl x3)] [.inr (.inr x2), .inl i130] u129.2 = _
                    refine Eq.trans (e1 hG PT_181 k181_359 _ _ _) ?_
                    show G 181 360 [some (.inr (.inr x0)), some (.inr (.inr x1)), some (.inr (.inr x2)), some (.inl x3)] [.inr (.inr x0), .inr (.inr x2), .inl i130] u129.2 = _
                    refine Eq.trans (e1 hG PT_181 k181_360 _ _ _) ?_
                    show G 181 361 [some (.inr (.inr x0)), some (.inr (.inr x1)), some (.inr (.inr x2)), some (.inl x3)] [.inl x3, .inr (.inr x0), .inr (.inr x2), .inl i130] u129.2 = _
                    refine Eq.trans (e1 hG PT_181 k181_361 _ _ _) ?_
                    show G 181 362 [some (.inr (.inr x0)), some (.inr (.inr x1)), some (.inr (.inr x2)), some (.inl x3)] [.inl 1, .inl x3, .inr (.inr x0), .inr (.inr x2), .inl i130] u129.2 = _
                    refine Eq.trans (e1 hG PT_181 k181_362 _ _ _) ?_
                    show G 181 363 [some (.inr (.inr x0)), some (.inr (.inr x1)), some (.inr (.inr x2)), some (.inl x3)] [.inl (x3 + 1), .inr (.inr x0), .inr (.inr x2), .inl i130] u129.2 = _
                    refine Eq.trans (e1 hG PT_181 k181_363 _ _ _) ?_
                    refine bdc fun i131 => ?_
                    show G 181 364 [some (.inr (.inr x0)), some (.inr (.inr x1)), some (.inr (.inr x2)), some (.inl x3)] [.inl i131, .inr (.inr x2), .inl i130] u129.2 = _
                    refine Eq.trans (e1 hG PT_181 k181_364 _ _ _) ?_
                    show G 181 365 [some (.inr (.inr x0)), some (.inr (.inr x1)), some (.inr (.inr x2)), some (.inl x3)] [.inr (.inr x0), .inl i131, .inr (.inr x2), .inl i130] u129.2 = _
                    refine Eq.trans (e1 hG PT_181 k181_365 _ _ _) ?_
                    show G 181 366 [some (.inr (.inr x0)), some (.inr (.inr x1)), some (.inr (.inr x2)), some (.inl x3)] [.inl x3, .inr (.inr x0), .inl i131, .inr (.inr x2), .inl i130] u129.2 = _
                    refine Eq.trans (e1 hG PT_181 k181_366 _ _ _) ?_
                    show G 181 367 [some (.inr (.inr x0)), some (.inr (.inr x1)), some (.inr (.inr x2)), some (.inl x3)] [.inl 2, .inl x3, .inr (.inr x0), .inl i131, .inr (.inr x2), .inl i130] u129.2 = _
                    refine Eq.trans (e1 hG PT_181 k181_367 _ _ _) ?_
                    show G 181 368 [some (.inr (.inr x0)), some (.inr (.inr x1)), some (.inr (.inr x2)), some (.inl x3)] [.inl (x3 + 2), .inr (.inr x0), .inl i131, .inr (.inr x2), .inl i130] u129.2 = _
                    refine Eq.trans (e1 hG PT_181 k181_368 _ _ _) ?_
                    refine bdc fun i132 => ?_
                    show G 181 369 [some (.inr (.inr x0)), some (.inr (.inr x1)), some (.inr (.inr x2)), some (.inl x3)] [.inl i132, .inl i131, .inr (.inr x2), .inl i130] u129.2 = _
                    refine Eq.trans (e1 hG PT_181 k181_369 _ _ _) ?_
                    refine bfc ?_ ?_
                    · refine bdc fun u133 => ?_
                      refine bdc fun i134 => ?_
                      show G 181 372 [some (.inr (.inr x0)), some (.inr (.inr x1)), some (.inr (.inr x2)), some (.inl x3)] [.inl i134, .inl i130] u133.2 = _
                      refine Eq.trans (e1 hG PT_181 k181_372 _ _ _) ?_
                      refine bfc ?_ ?_
                      · rfl
                      · show G 181 375 [some (.inr (.inr x0)), some (.inr (.inr x1)), some (.inr (.inr x2)), some (.inl x3)] [] u133.2 = _
                        refine Eq.trans (e1 hG PT_181 k181_375 _ _ _) ?_
                        show G 181 376 [some (.inr (.inr x0)), some (.inr (.inr x1)), some (.inr (.inr x2)), some (.inl x3)] [.inl 0] u133.2 = _
                        exact e1 hG PT_181 k181_376 _ _ _
                    · rfl
                  · rfl
                · refine bfc ?_ ?_
                  · show G 181 377 [some (.inr (.inr x0)), some (.inr (.inr x1)), some (.inr (.inr x2)), some (.inl x3)] [] H = _
                    refine Eq.trans (e1 hG PT_181 k181_377 _ _ _) ?_
                    show G 181 378 [some (.inr (.inr x0)), some (.inr (.inr x1)), some (.inr (.inr x2)), some (.inl x3)] [.inr (.inr x1)] H = _
                    refine Eq.trans (e1 hG PT_181 k181_378 _ _ _) ?_
                    show G 181 379 [some (.inr (.inr x0)), some (.inr (.inr x1)), some (.inr (.inr x2)), some (.inl x3)] [.inr (.inr x0), .inr (.inr x1)] H = _
                    refine Eq.trans (e1 hG PT_181 k181_379 _ _ _) ?_
                    show G 181 380 [some (.inr (.inr x0)), some (.inr (.inr x1)), some (.inr (.inr x2)), some (.inl x3)] [.inl x3, .inr (.inr x0), .inr (.inr x1)] H = _
                    refine Eq.trans (e1 hG PT_181 k181_380 _ _ _) ?_
                    show G 181 381 [some (.inr (.inr x0)), some (.inr (.inr x1)), some (.inr (.inr x2)), some (.inl x3)] [.inl 1, .inl x3, .inr (.inr x0), .inr (.inr x1)] H = _
                    refine Eq.trans (e1 hG PT_181 k181_381 _ _ _) ?_
                    show G 181 382 [some (.inr (.inr x0)), some (.inr (.inr x1)), some (.inr (.inr x2)), some (.inl x3)] [.inl (x3 + 1), .inr (.inr x0), .inr (.inr x1)] H = _
                    refine Eq.trans (e1 hG PT_181 k181_382 _ _ _) ?_
                    refine bdc fun i121 => ?_
                    show G 181 383 [some (.inr (.inr x0)), some (.inr (.inr x1)), some (.inr (.inr x2)), some (.inl x3)] [.inl i121, .inr (.inr x1)] H = _
                    refine Eq.trans (e1 hG PT_181 k181_383 _ _ _) ?_
                    refine bfc ?_ ?_
                    · refine bdc fun u122 => ?_
                      refine bdc fun i123 => ?_
                      show G 181 386 [some (.inr (.inr x0)), some (.inr (.inr x1)), some (.inr (.inr x2)), some (.inl x3)] [.inl i123] u122.2 = _
                      refine Eq.trans (e1 hG PT_181 k181_386 _ _ _) ?_
                      show G 181 387 [some (.inr (.inr x0)), some (.inr (.inr x1)), some (.inr (.inr x2)), some (.inl x3)] [.inr (.inr x2), .inl i123] u122.2 = _
                      refine Eq.trans (e1 hG PT_181 k181_387 _ _ _) ?_
                      show G 181 388 [some (.inr (.inr x0)), some (.inr (.inr x1)), some (.inr (.inr x2)), some (.inl x3)] [.inr (.inr x0), .inr (.inr x2), .inl i123] u122.2 = _
                      refine Eq.trans (e1 hG PT_181 k181_388 _ _ _) ?_
                      show G 181 389 [some (.inr (.inr x0)), some (.inr (.inr x1)), some (.inr (.inr x2)), some (.inl x3)] [.inl x3, .inr (.inr x0), .inr (.inr x2), .inl i123] u122.2 = _
                      refine Eq.trans (e1 hG PT_181 k181_389 _ _ _) ?_
                      show G 181 390 [some (.inr (.inr x0)), some (.inr (.inr x1)), some (.inr (.inr x2)), some (.inl x3)] [.inl 1, .inl x3, .inr (.inr x0), .inr (.inr x2), .inl i123] u122.2 = _
                      refine Eq.trans (e1 hG PT_181 k181_390 _ _ _) ?_
                      show G 181 391 [some (.inr (.inr x0)), some (.inr (.inr x1)), some (.inr (.inr x2)), some (.inl x3)] [.inl (x3 + 1), .inr (.inr x0), .inr (.inr x2), .inl i123] u122.2 = _
                      refine Eq.trans (e1 hG PT_181 k181_391 _ _ _) ?_
                      refine bdc fun i124 => ?_
                      show G 181 392 [some (.inr (.inr x0)), some (.inr (.inr x1)), some (.inr (.inr x2)), some (.inl x3)] [.inl i124, .inr (.inr x2), .inl i123] u122.2 = _
                      refine Eq.trans (e1 hG PT_181 k181_392 _ _ _) ?_
                      refine bfc ?_ ?_
                      · refine bdc fun u125 => ?_
                        refine bdc fun i126 => ?_
                        show G 181 395 [some (.inr (.inr x0)), some (.inr (.inr x1)), some (.inr (.inr x2)), some (.inl x3)] [.inl i126, .inl i123] u125.2 = _
                        refine Eq.trans (e1 hG PT_181 k181_395 _ _ _) ?_
                        refine bfc ?_ ?_
                        · rfl
                        · show G 181 398 [some (.inr (.inr x0)), some (.inr (.inr x1)), some (.inr (.inr x2)), some (.inl x3)] [] u125.2 = _
                          refine Eq.trans (e1 hG PT_181 k181_398 _ _ _) ?_
                          show G 181 399 [some (.inr (.inr x0)), some (.inr (.inr x1)), some (.inr (.inr x2)), some (.inl x3)] [.inl 0] u125.2 = _
                          exact e1 hG PT_181 k181_399 _ _ _
                      · rfl
                    · rfl
                  · refine bfc ?_ ?_
                    · show G 181 400 [some (.inr (.inr x0)), some (.inr (.inr x1)), some (.inr (.inr x2)), some (.inl x3)] [] H = _
                      refine Eq.trans (e1 hG PT_181 k181_400 _ _ _) ?_
                      show G 181 401 [some (.inr (.inr x0)), some (.inr (.inr x1)), some (.inr (.inr x2)), some (.inl x3)] [.inr (.inr x1)] H = _
                      refine Eq.trans (e1 hG PT_181 k181_401 _ _ _) ?_
                      show G 181 402 [some (.inr (.inr x0)), some (.inr (.inr x1)), some (.inr (.inr x2)), some (.inl x3)] [.inr (.inr x0), .inr (.inr x1)] H = _
                      refine Eq.trans (e1 hG PT_181 k181_402 _ _ _) ?_
                      show G 181 403 [some (.inr (.inr x0)), some (.inr (.inr x1)), some (.inr (.inr x2)), some (.inl x3)] [.inl x3, .inr (.inr x0), .inr (.inr x1)] H = _
                      refine Eq.trans (e1 hG PT_181 k181_403 _ _ _) ?_
                      show G 181 404 [some (.inr (.inr x0)), some (.inr (.inr x1)), some (.inr (.inr x2)), some (.inl x3)] [.inl 1, .inl x3, .inr (.inr x0), .inr (.inr x1)] H = _
                      refine Eq.trans (e1 hG PT_181 k181_404 _ _ _) ?_
                      show G 181 405 [some (.inr (.inr x0)), some (.inr (.inr x1)), some (.inr (.inr x2)), some (.inl x3)] [.inl (x3 + 1), .inr (.inr x0), .inr (.inr x1)] H = _
                      refine Eq.trans (e1 hG PT_181 k181_405 _ _ _) ?_
                      refine bdc fun i113 => ?_
                      show G 181 406 [some (.inr (.inr x0)), some (.inr (.inr x1)), some (.inr (.inr x2)), some (.inl x3)] [.inl i113, .inr (.inr x1)] H = _
                      refine Eq.trans (e1 hG PT_181 k181_406 _ _ _) ?_
                      show G 181 407 [some (.inr (.inr x0)), some (.inr (.inr x1)), some (.inr (.inr x2)), some (.inl x3)] [.inr (.inr x0), .inl i113, .inr (.inr x1)] H = _
                      refine Eq.trans (e1 hG PT_181 k181_407 _ _ _) ?_
                      show G 181 408 [some (.inr (.inr x0)), some (.inr (.inr x1)), some (.inr (.inr x2)), some (.inl x3)] [.inl x3, .inr (.inr x0), .inl i113, .inr (.inr x1)] H = _
                      refine Eq.trans (e1 hG PT_181 k181_408 _ _ _) ?_
                      show G 181 409 [some (.inr (.inr x0)), some (.inr (.inr x1)), some (.inr (.inr x2)), some (.inl x3)] [.inl 2, .inl x3, .inr (.inr x0), .inl i113, .inr (.inr x1)] H = _
                      refine Eq.trans (e1 hG PT_181 k181_409 _ _ _) ?_
                      show G 181 410 [some (.inr (.inr x0)), some (.inr (.inr x1)), some (.inr (.inr x2)), some (.inl x3)] [.inl (x3 + 2), .inr (.inr x0), .inl i113, .inr (.inr x1)] H = _
                      refine Eq.trans (e1 hG PT_181 k181_410 _ _ _) ?_
                      refine bdc fun i114 => ?_
                      show G 181 411 [some (.inr (.inr x0)), some (.inr (.inr x1)), some (.inr (.inr x2)), some (.inl x3)] [.inl i114, .inl i113, .inr (.inr x1)] H = _
                      refine Eq.trans (e1 hG PT_181 k181_411 _ _ _) ?_
                      refine bfc ?_ ?_
                      · refine bdc fun u115 => ?_
                        refine bdc fun i116 => ?_
                        show G 181 414 [some (.inr (.inr x0)), some (.inr (.inr x1)), some (.inr (.inr x2)), some (.inl x3)] [.inl i116] u115.2 = _
                        refine Eq.trans (e1 hG PT_181 k181_414 _ _ _) ?_
                        show G 181 415 [some (.inr (.inr x0)), some (.inr (.inr x1)), some (.inr (.inr x2)), some (.inl x3)] [.inr (.inr x2), .inl i116] u115.2 = _
                        refine Eq.trans (e1 hG PT_181 k181_415 _ _ _) ?_
                        show G 181 416 [some (.inr (.inr x0)), some (.inr (.inr x1)), some (.inr (.inr x2)), some (.inl x3)] [.inr (.inr x0), .inr (.inr x2), .inl i116] u115.2 = _
                        refine Eq.trans (e1 hG PT_181 k181_416 _ _ _) ?_
                        show G 181 417 [some (.inr (.inr x0)), some (.inr (.inr x1)), some (.inr (.inr x2)), some (.inl x3)] [.inl x3, .inr (.inr x0), .inr (.inr x2), .inl i116] u115.2 = _
                        refine Eq.trans (e1 hG PT_181 k181_417 _ _ _) ?_
                        show G 181 418 [some (.inr (.inr x0)), some (.inr (.inr x1)), some (.inr (.inr x2)), some (.inl x3)] [.inl 1, .inl x3, .inr (.inr x0), .inr (.inr x2), .inl i116] u115.2 = _
                        refine Eq.trans (e1 hG PT_181 k181_418 _ _ _) ?_
                        show G 181 419 [some (.inr (.inr x0)), some (.inr (.inr x1)), some (.inr (.inr x2)), some (.inl x3)] [.inl (x3 + 1), .inr (.inr x0), .inr (.inr x2), .inl i116] u115.2 = _
                        refine Eq.trans (e1 hG PT_181 k181_419 _ _ _) ?_
                        refine bdc fun i117 => ?_
                        show G 181 420 [some (.inr (.inr x0)), some (.inr (.inr x1)), some (.inr (.inr x2)), some (.inl x3)] [.inl i117, .inr (.inr x2), .inl i116] u115.2 = _
                        refine Eq.trans (e1 hG PT_181 k181_420 _ _ _) ?_
                        show G 181 421 [some (.inr (.inr x0)), some (.inr (.inr x1)), some (.inr (.inr x2)), some (.inl x3)] [.inr (.inr x0), .inl i117, .inr (.inr x2), .inl i116] u115.2 = _
                        refine Eq.trans (e1 hG PT_181 k181_421 _ _ _) ?_
                        show G 181 422 [some (.inr (.inr x0)), some (.inr (.inr x1)), some (.inr (.inr x2)), some (.inl x3)] [.inl x3, .inr (.inr x0), .inl i117, .inr (.inr x2), .inl i116] u115.2 = _
                        refine Eq.trans (e1 hG PT_181 k181_422 _ _ _) ?_
                        show G 181 423 [some (.inr (.inr x0)), some (.inr (.inr x1)), some (.inr (.inr x2)), some (.inl x3)] [.inl 2, .inl x3, .inr (.inr x0), .inl i117, .inr (.inr x2), .inl i116] u115.2 = _
                        refine Eq.trans (e1 hG PT_181 k181_423 _ _ _) ?_
                        show G 181 424 [some (.inr (.inr x0)), some (.inr (.inr x1)), some (.inr (.inr x2)), some (.inl x3)] [.inl (x3 + 2), .inr (.inr x0), .inl i117, .inr (.inr x2), .inl i116] u115.2 = _
                        refine Eq.trans (e1 hG PT_181 k181_424 _ _ _) ?_
                        refine bdc fun i118 => ?_
                        show G 181 425 [some (.inr (.inr x0)), some (.inr (.inr x1)), some (.inr (.inr x2)), some (.inl x3)] [.inl i118, .inl i117, .inr (.inr x2), .inl i116] u115.2 = _
                        refine Eq.trans (e1 hG PT_181 k181_425 _ _ _) ?_
                        refine bfc ?_ ?_
                        · refine bdc fun u119 => ?_
                          refine bdc fun i120 => ?_
                          show G 181 428 [some (.inr (.inr x0)), some (.inr (.inr x1)), some (.inr (.inr x2)), some (.inl x3)] [.inl i120, .inl i116] u119.2 = _
                          refine Eq.trans (e1 hG PT_181 k181_428 _ _ _) ?_
                          refine bfc ?_ ?_
                          · rfl
                          · show G 181 431 [some (.inr (.inr x0)), some (.inr (.inr x1)), some (.inr (.inr x2)), some (.inl x3)] [] u119.2 = _
                            refine Eq.trans (e1 hG PT_181 k181_431 _ _ _) ?_
                            show G 181 432 [some (.inr (.inr x0)), some (.inr (.inr x1)), some (.inr (.inr x2)), some (.inl x3)] [.inl 0] u119.2 = _
                            exact e1 hG PT_181 k181_432 _ _ _
                        · rfl
                      · rfl
                    · refine bfc ?_ ?_
                      · show G 181 433 [some (.inr (.inr x0)), some (.inr (.inr x1)), some (.inr (.inr x2)), some (.inl x3)] [] H = _
                        refine Eq.trans (e1 hG PT_181 k181_433 _ _ _) ?_
                        show G 181 434 [some (.inr (.inr x0)), some (.inr (.inr x1)), some (.inr (.inr x2)), some (.inl x3)] [.inr (.inr x1)] H = _
                        refine Eq.trans (e1 hG PT_181 k181_434 _ _ _) ?_
                        show G 181 435 [some (.inr (.inr x0)), some (.inr (.inr x1)), some (.inr (.inr x2)), some (.inl x3)] [.inr (.inr x0), .inr (.inr x1)] H = _
                        refine Eq.trans (e1 hG PT_181 k181_435 _ _ _) ?_
                        show G 181 436 [some (.inr (.inr x0)), some (.inr (.inr x1)), some (.inr (.inr x2)), some (.inl x3)] [.inl x3, .inr (.inr x0), .inr (.inr x1)] H = _
                        refine Eq.trans (e1 hG PT_181 k181_436 _ _ _) ?_
                        show G 181 437 [some (.inr (.inr x0)), some (.inr (.inr x1)), some (.inr (.inr x2)), some (.inl x3)] [.inl 1, .inl x3, .inr (.inr x0), .inr (.inr x1)] H = _
                        refine Eq.trans (e1 hG PT_181 k181_437 _ _ _) ?_
                        show G 181 438 [some (.inr (.inr x0)), some (.inr (.inr x1)), some (.inr (.inr x2)), some (.inl x3)] [.inl (x3 + 1), .inr (.inr x0), .inr (.inr x1)] H = _
                        refine Eq.trans (e1 hG PT_181 k181_438 _ _ _) ?_
                        refine bdc fun i103 => ?_
                        show G 181 439 [some (.inr (.inr x0)), some (.inr (.inr x1)), some (.inr (.inr x2)), some (.inl x3)] [.inl i103, .inr (.inr x1)] H = _
                        refine Eq.trans (e1 hG PT_181 k181_439 _ _ _) ?_
                        show G 181 440 [some (.inr (.inr x0)), some (.inr (.inr x1)), some (.inr (.inr x2)), some (.inl x3)] [.inr (.inr x0), .inl i103, .inr (.inr x1)] H = _
                        refine Eq.trans (e1 hG PT_181 k181_440 _ _ _) ?_
                        show G 181 441 [some (.inr (.inr x0)), some (.inr (.inr x1)), some (.inr (.inr x2)), some (.inl x3)] [.inl x3, .inr (.inr x0), .inl i103, .inr (.inr x1)] H = _
                        refine Eq.trans (e1 hG PT_181 k181_441 _ _ _) ?_
                        show G 181 442 [some (.inr (.inr x0)), some (.inr (.inr x1)), some (.inr (.inr x2)), some (.inl x3)] [.inl 2, .inl x3, .inr (.inr x0), .inl i103, .inr (.inr x1)] H = _
                        refine Eq.trans (e1 hG PT_181 k181_442 _ _ _) ?_
                        show G 181 443 [some (.inr (.inr x0)), some (.inr (.inr x1)), some (.inr (.inr x2)), some (.inl x3)] [.inl (x3 + 2), .inr (.inr x0), .inl i103, .inr (.inr x1)] H = _
                        refine Eq.trans (e1 hG PT_181 k181_443 _ _ _) ?_
                        refine bdc fun i104 => ?_
                        show G 181 444 [some (.inr (.inr x0)), some (.inr (.inr x1)), some (.inr (.inr x2)), some (.inl x3)] [.inl i104, .inl i103, .inr (.inr x1)] H = _
                        refine Eq.trans (e1 hG PT_181 k181_444 _ _ _) ?_
                        show G 181 445 [some (.inr (.inr x0)), some (.inr (.inr x1)), some (.inr (.inr x2)), some (.inl x3)] [.inr (.inr x0), .inl i104, .inl i103, .inr (.inr x1)] H = _
                        refine Eq.trans (e1 hG PT_181 k181_445 _ _ _) ?_
                        show G 181 446 [some (.inr (.inr x0)), some (.inr (.inr x1)), some (.inr (.inr x2)), some (.inl x3)] [.inl x3, .inr (.inr x0), .inl i104, .inl i103, .inr (.inr x1)] H = _
                        refine Eq.trans (e1 hG PT_181 k181_446 _ _ _) ?_
                        show G 181 447 [some (.inr (.inr x0)), some (.inr (.inr x1)), some (.inr (.inr x2)), some (.inl x3)] [.inl 3, .inl x3, .inr (.inr x0), .inl i104, .inl i103, .inr (.inr x1)] H = _
                        refine Eq.trans (e1 hG PT_181 k181_447 _ _ _) ?_
                        show G 181 448 [some (.inr (.inr x0)), some (.inr (.inr x1)), some (.inr (.inr x2)), some (.inl x3)] [.inl (x3 + 3), .inr (.inr x0), .inl i104, .inl i103, .inr (.inr x1)] H = _
                        refine Eq.trans (e1 hG PT_181 k181_448 _ _ _) ?_
                        refine bdc fun i105 => ?_
                        show G 181 449 [some (.inr (.inr x0)), some (.inr (.inr x1)), some (.inr (.inr x2)), some (.inl x3)] [.inl i105, .inl i104, .inl i103, .inr (.inr x1)] H = _
                        refine Eq.trans (e1 hG PT_181 k181_449 _ _ _) ?_
                        refine bfc ?_ ?_
                        · refine bdc fun u106 => ?_
                          refine bdc fun i107 => ?_
                          show G 181 452 [some (.inr (.inr x0)), some (.inr (.inr x1)), some (.inr (.inr x2)), some (.inl x3)] [.inl i107] u106.2 = _
                          refine Eq.trans (e1 hG PT_181 k181_452 _ _ _) ?_
                          show G 181 453 [some (.inr (.inr x0)), some (.inr (.inr x1)), some (.inr (.inr x2)), some (.inl x3)] [.inr (.inr x2), .inl i107] u106.2 = _
                          refine Eq.trans (e1 hG PT_181 k181_453 _ _ _) ?_
                          show G 181 454 [some (.inr (.inr x0)), some (.inr (.inr x1)), some (.inr (.inr x2)), some (.inl x3)] [.inr (.inr x0), .inr (.inr x2), .inl i107] u106.2 = _
                          refine Eq.trans (e1 hG PT_181 k181_454 _ _ _) ?_
                          show G 181 455 [some (.inr (.inr x0)), some (.inr (.inr x1)), some (.inr (.inr x2)), some (.inl x3)] [.inl x3, .inr (.inr x0), .inr (.inr x2), .inl i107] u106.2 = _
                          refine Eq.trans (e1 hG PT_181 k181_455 _ _ _) ?_
                          show G 181 456 [some (.inr (.inr x0)), some (.inr (.inr x1)), some (.inr (.inr x2)), some (.inl x3)] [.inl 1, .inl x3, .inr (.inr x0), .inr (.inr x2), .inl i107] u106.2 = _
                          refine Eq.trans (e1 hG PT_181 k181_456 _ _ _) ?_
                          show G 181 457 [some (.inr (.inr x0)), some (.inr (.inr x1)), some (.inr (.inr x2)), some (.inl x3)] [.inl (x3 + 1), .inr (.inr x0), .inr (.inr x2), .inl i107] u106.2 = _
                          refine Eq.trans (e1 hG PT_181 k181_457 _ _ _) ?_
                          refine bdc fun i108 => ?_
                          show G 181 458 [some (.inr (.inr x0)), some (.inr (.inr x1)), some (.inr (.inr x2)), some (.inl x3)] [.inl i108, .inr (.inr x2), .inl i107] u106.2 = _
                          refine Eq.trans (e1 hG PT_181 k181_458 _ _ _) ?_
                          show G 181 459 [some (.inr (.inr x0)), some (.inr (.inr x1)), some (.inr (.inr x2)), some (.inl x3)] [.inr (.inr x0), .inl i108, .inr (.inr x2), .inl i107] u106.2 = _
                          refine Eq.trans (e1 hG PT_181 k181_459 _ _ _) ?_
                          show G 181 460 [some (.inr (.inr x0)), some (.inr (.inr x1)), some (.inr (.inr x2)), some (.inl x3)] [.inl x3, .inr (.inr x0), .inl i108, .inr (.inr x2), .inl i107] u106.2 = _
                          refine Eq.trans (e1 hG PT_181 k181_460 _ _ _) ?_
                          show G 181 461 [some (.inr (.inr x0)), some (.inr (.inr x1)), some (.inr (.inr x2)), some (.inl x3)] [.inl 2, .inl x3, .inr (.inr x0), .inl i108, .inr (.inr x2), .inl i107] u106.2 = _
                          refine Eq.trans (e1 hG PT_181 k181_461 _ _ _) ?_
                          show G 181 462 [some (.inr (.inr x0)), some (.inr (.inr x1)), some (.inr (.inr x2)), some (.inl x3)] [.inl (x3 + 2), .inr (.inr x0), .inl i108, .inr (.inr x2), .inl i107] u106.2 = _
                          refine Eq.trans (e1 hG PT_181 k181_462 _ _ _) ?_
                          refine bdc fun i109 => ?_
                          show G 181 463 [some (.inr (.inr x0)), some (.inr (.inr x1)), some (.inr (.inr x2)), some (.inl x3)] [.inl i109, .inl i108, .inr (.inr x2), .inl i107] u106.2 = _
                          refine Eq.trans (e1 hG PT_181 k181_463 _ _ _) ?_
                          show G 181 464 [some (.inr (.inr x0)), some (.inr (.inr x1)), some (.inr (.inr x2)), some (.inl x3)] [.inr (.inr x0), .inl i109, .inl i108, .inr (.inr x2), .inl i107] u106.2 = _
                          refine Eq.trans (e1 hG PT_181 k181_464 _ _ _) ?_
                          show G 181 465 [some (.inr (.inr x0)), some (.inr (.inr x1)), some (.inr (.inr x2)), some (.inl x3)] [.inl x3, .inr (.inr x0), .inl i109, .inl i108, .inr (.inr x2), .inl i107] u106.2 = _
                          refine Eq.trans (e1 hG PT_181 k181_465 _ _ _) ?_
                          show G 181 466 [some (.inr (.inr x0)), some (.inr (.inr x1)), some (.inr (.inr x2)), some (.inl x3)] [.inl 3, .inl x3, .inr (.inr x0), .inl i109, .inl i108, .inr (.inr x2), .inl i107] u106.2 = _
                          refine Eq.trans (e1 hG PT_181 k181_466 _ _ _) ?_
                          show G 181 467 [some (.inr (.inr x0)), some (.inr (.inr x1)), some (.inr (.inr x2)), some (.inl x3)] [.inl (x3 + 3), .inr (.inr x0), .inl i109, .inl i108, .inr (.inr x2), .inl i107] u106.2 = _
                          refine Eq.trans (e1 hG PT_181 k181_467 _ _ _) ?_
                          refine bdc fun i110 => ?_
                          show G 181 468 [some (.inr (.inr x0)), some (.inr (.inr x1)), some (.inr (.inr x2)), some (.inl x3)] [.inl i110, .inl i109, .inl i108, .inr (.inr x2), .inl i107] u106.2 = _
                          refine Eq.trans (e1 hG PT_181 k181_468 _ _ _) ?_
                          refine bfc ?_ ?_
                          · refine bdc fun u111 => ?_
                            refine bdc fun i112 => ?_
                            show G 181 471 [some (.inr (.inr x0)), some (.inr (.inr x1)), some (.inr (.inr x2)), some (.inl x3)] [.inl i112, .inl i107] u111.2 = _
                            refine Eq.trans (e1 hG PT_181 k181_471 _ _ _) ?_
                            refine bfc ?_ ?_
                            · rfl
                            · show G 181 474 [some (.inr (.inr x0)), some (.inr (.inr x1)), some (.inr (.inr x2)), some (.inl x3)] [] u111.2 = _
                              refine Eq.trans (e1 hG PT_181 k181_474 _ _ _) ?_
                              show G 181 475 [some (.inr (.inr x0)), some (.inr (.inr x1)), some (.inr (.inr x2)), some (.inl x3)] [.inl 0] u111.2 = _
                              exact e1 hG PT_181 k181_475 _ _ _
                          · rfl
                        · rfl
                      · refine bfc ?_ ?_
                        · show G 181 476 [some (.inr (.inr x0)), some (.inr (.inr x1)), some (.inr (.inr x2)), some (.inl x3)] [] H = _
                          refine Eq.trans (e1 hG PT_181 k181_476 _ _ _) ?_
                          show G 181 477 [some (.inr (.inr x0)), some (.inr (.inr x1)), some (.inr (.inr x2)), some (.inl x3)] [.inr (.inr x1)] H = _
                          refine Eq.trans (e1 hG PT_181 k181_477 _ _ _) ?_
                          show G 181 478 [some (.inr (.inr x0)), some (.inr (.inr x1)), some (.inr (.inr x2)), some (.inl x3)] [.inr (.inr x0), .inr (.inr x1)] H = _
                          refine Eq.trans (e1 hG PT_181 k181_478 _ _ _) ?_
                          show G 181 479 [some (.inr (.inr x0)), some (.inr (.inr x1)), some (.inr (.inr x2)), some (.inl x3)] [.inl x3, .inr (.inr x0), .inr (.inr x1)] H = _
                          refine Eq.trans (e1 hG PT_181 k181_479 _ _ _) ?_
                          show G 181 480 [some (.inr (.inr x0)), some (.inr (.inr x1)), some (.inr (.inr x2)), some (.inl x3)] [.inl 1, .inl x3, .inr (.inr x0), .inr (.inr x1)] H = _
                          refine Eq.trans (e1 hG PT_181 k181_480 _ _ _) ?_
                          show G 181 481 [some (.inr (.inr x0)), some (.inr (.inr x1)), some (.inr (.inr x2)), some (.inl x3)] [.inl (x3 + 1), .inr (.inr x0), .inr (.inr x1)] H = _
                          refine Eq.trans (e1 hG PT_181 k181_481 _ _ _) ?_
                          refine bdc fun i93 => ?_
                          show G 181 482 [some (.inr (.inr x0)), some (.inr (.inr x1)), some (.inr (.inr x2)), some (.inl x3)] [.inl i93, .inr (.inr x1)] H = _
                          refine Eq.trans (e1 hG PT_181 k181_482 _ _ _) ?_
                          show G 181 483 [some (.inr (.inr x0)), some (.inr (.inr x1)), some (.inr (.inr x2)), some (.inl x3)] [.inr (.inr x0), .inl i93, .inr (.inr x1)] H = _
                          refine Eq.trans (e1 hG PT_181 k181_483 _ _ _) ?_
                          show G 181 484 [some (.inr (.inr x0)), some (.inr (.inr x1)), some (.inr (.inr x2)), some (.inl x3)] [.inl x3, .inr (.inr x0), .inl i93, .inr (.inr x1)] H = _
                          refine Eq.trans (e1 hG PT_181 k181_484 _ _ _) ?_
                          show G 181 485 [some (.inr (.inr x0)), some (.inr (.inr x1)), some (.inr (.inr x2)), some (.inl x3)] [.inl 2, .inl x3, .inr (.inr x0), .inl i93, .inr (.inr x1)] H = _
                          refine Eq.trans (e1 hG PT_181 k181_485 _ _ _) ?_
                          show G 181 486 [some (.inr (.inr x0)), some (.inr (.inr x1)), some (.inr (.inr x2)), some (.inl x3)] [.inl (x3 + 2), .inr (.inr x0), .inl i93, .inr (.inr x1)] H = _
                          refine Eq.trans (e1 hG PT_181 k181_486 _ _ _) ?_
                          refine bdc fun i94 => ?_
                          show G 181 487 [some (.inr (.inr x0)), some (.inr (.inr x1)), some (.inr (.inr x2)), some (.inl x3)] [.inl i94, .inl i93, .inr (.inr x1)] H = _
                          refine Eq.trans (e1 hG PT_181 k181_487 _ _ _) ?_
                          show G 181 488 [some (.inr (.inr x0)), some (.inr (.inr x1)), some (.inr (.inr x2)), some (.inl x3)] [.inr (.inr x0), .inl i94, .inl i93, .inr (.inr x1)] H = _
                          refine Eq.trans (e1 hG PT_181 k181_488 _ _ _) ?_
                          show G 181 489 [some (.inr (.inr x0)), some (.inr (.inr x1)), some (.inr (.inr x2)), some (.inl x3)] [.inl x3, .inr (.inr x0), .inl i94, .inl i93, .inr (.inr x1)] H = _
                          refine Eq.trans (e1 hG PT_181 k181_489 _ _ _) ?_
                          show G 181 490 [some (.inr (.inr x0)), some (.inr (.inr x1)), some (.inr (.inr x2)), some (.inl x3)] [.inl 3, .inl x3, .inr (.inr x0), .inl i94, .inl i93, .inr (.inr x1)] H = _
                          refine Eq.trans (e1 hG PT_181 k181_490 _ _ _) ?_
                          show G 181 491 [some (.inr (.inr x0)), some (.inr (.inr x1)), some (.inr (.inr x2)), some (.inl x3)] [.inl (x3 + 3), .inr (.inr x0), .inl i94, .inl i93, .inr (.inr x1)] H = _
                          refine Eq.trans (e1 hG PT_181 k181_491 _ _ _) ?_
                          refine bdc fun i95 => ?_
                          show G 181 492 [some (.inr (.inr x0)), some (.inr (.inr x1)), some (.inr (.inr x2)), some (.inl x3)] [.inl i95, .inl i94, .inl i93, .inr (.inr x1)] H = _
                          refine Eq.trans (e1 hG PT_181 k181_492 _ _ _) ?_
                          refine bfc ?_ ?_
                          · refine bdc fun u96 => ?_
                            refine bdc fun i97 => ?_
                            show G 181 495 [some (.inr (.inr x0)), some (.inr (.inr x1)), some (.inr (.inr x2)), some (.inl x3)] [.inl i97] u96.2 = _
                            refine Eq.trans (e1 hG PT_181 k181_495 _ _ _) ?_
                            show G 181 496 [some (.inr (.inr x0)), some (.inr (.inr x1)), some (.inr (.inr x2)), some (.inl x3)] [.inr (.inr x2), .inl i97] u96.2 = _
                            refine Eq.trans (e1 hG PT_181 k181_496 _ _ _) ?_
                            show G 181 497 [some (.inr (.inr x0)), some (.inr (.inr x1)), some (.inr (.inr x2)), some (.inl x3)] [.inr (.inr x0), .inr (.inr x2), .inl i97] u96.2 = _
                            refine Eq.trans (e1 hG PT_181 k181_497 _ _ _) ?_
                            show G 181 498 [some (.inr (.inr x0)), some (.inr (.inr x1)), some (.inr (.inr x2)), some (.inl x3)] [.inl x3, .inr (.inr x0), .inr (.inr x2), .inl i97] u96.2 = _
                            refine Eq.trans (e1 hG PT_181 k181_498 _ _ _) ?_
                            show G 181 499 [some (.inr (.inr x0)), some (.inr (.inr x1)), some (.inr (.inr x2)), some (.inl x3)] [.inl 1, .inl x3, .inr (.inr x0), .inr (.inr x2), .inl i97] u96.2 = _
                            refine Eq.trans (e1 hG PT_181 k181_499 _ _ _) ?_
                            show G 181 500 [some (.inr (.inr x0)), some (.inr (.inr x1)), some (.inr (.inr x2)), some (.inl x3)] [.inl (x3 + 1), .inr (.inr x0), .inr (.inr x2), .inl i97] u96.2 = _
                            refine Eq.trans (e1 hG PT_181 k181_500 _ _ _) ?_
                            refine bdc fun i98 => ?_
                            show G 181 501 [some (.inr (.inr x0)), some (.inr (.inr x1)), some (.inr (.inr x2)), some (.inl x3)] [.inl i98, .inr (.inr x2), .inl i97] u96.2 = _
                            refine Eq.trans (e1 hG PT_181 k181_501 _ _ _) ?_
                            show G 181 502 [some (.inr (.inr x0)), some (.inr (.inr x1)), some (.inr (.inr x2)), some (.inl x3)] [.inr (.inr x0), .inl i98, .inr (.inr x2), .inl i97] u96.2 = _
                            refine Eq.trans (e1 hG PT_181 k181_502 _ _ _) ?_
                            show G 181 503 [some (.inr (.inr x0)), some (.inr (.inr x1)), some (.inr (.inr x2)), some (.inl x3)] [.inl x3, .inr (.inr x0), .inl i98, .inr (.inr x2), .inl i97] u96.2 = _
                            refine Eq.trans (e1 hG PT_181 k181_503 _ _ _) ?_
                            show G 181 504 [some (.inr (.inr x0)), some (.inr (.inr x1)), some (.inr (.inr x2)), some (.inl x3)] [.inl 2, .inl x3, .inr (.inr x0), .inl i98, .inr (.inr x2), .inl i97] u96.2 = _
                            refine Eq.trans (e1 hG PT_181 k181_504 _ _ _) ?_
                            show G 181 505 [some (.inr (.inr x0)), some (.inr (.inr x1)), some (.inr (.inr x2)), some (.inl x3)] [.inl (x3 + 2), .inr (.inr x0), .inl i98, .inr (.inr x2), .inl i97] u96.2 = _
                            refine Eq.trans (e1 hG PT_181 k181_505 _ _ _) ?_
                            refine bdc fun i99 => ?_
                            show G 181 506 [some (.inr (.inr x0)), some (.inr (.inr x1)), some (.inr (.inr x2)), some (.inl x3)] [.inl i99, .inl i98, .inr (.inr x2), .inl i97] u96.2 = _
                            refine Eq.trans (e1 hG PT_181 k181_506 _ _ _) ?_
                            show G 181 507 [some (.inr (.inr x0)), some (.inr (.inr x1)), some (.inr (.inr x2)), some (.inl x3)] [.inr (.inr x0), .inl i99, .inl i98, .inr (.inr x2), .inl i97] u96.2 = _
                            refine Eq.trans (e1 hG PT_181 k181_507 _ _ _) ?_
                            show G 181 508 [some (.inr (.inr x0)), some (.inr (.inr x1)), some (.inr (.inr x2)), some (.inl x3)] [.inl x3, .inr (.inr x0), .inl i99, .inl i98, .inr (.inr x2), .inl i97] u96.2 = _
                            refine Eq.trans (e1 hG PT_181 k181_508 _ _ _) ?_
                            show G 181 509 [some (.inr (.inr x0)), some (.inr (.inr x1)), some (.inr (.inr x2)), some (.inl x3)] [.inl 3, .inl x3, .inr (.inr x0), .inl i99, .inl i98, .inr (.inr x2), .inl i97] u96.2 = _
                            refine Eq.trans (e1 hG PT_181 k181_509 _ _ _) ?_
                            show G 181 510 [some (.inr (.inr x0)), some (.inr (.inr x1)), some (.inr (.inr x2)), some (.inl x3)] [.inl (x3 + 3), .inr (.inr x0), .inl i99, .inl i98, .inr (.inr x2), .inl i97] u96.2 = _
                            refine Eq.trans (e1 hG PT_181 k181_510 _ _ _) ?_
                            refine bdc fun i100 => ?_
                            show G 181 511 [some (.inr (.inr x0)), some (.inr (.inr x1)), some (.inr (.inr x2)), some (.inl x3)] [.inl i100, .inl i99, .inl i98, .inr (.inr x2), .inl i97] u96.2 = _
                            refine Eq.trans (e1 hG PT_181 k181_511 _ _ _) ?_
                            refine bfc ?_ ?_
                            · refine bdc fun u101 => ?_
                              refine bdc fun i102 => ?_
                              show G 181 514 [some (.inr (.inr x0)), some (.inr (.inr x1)), some (.inr (.inr x2)), some (.inl x3)] [.inl i102, .inl i97] u101.2 = _
                              refine Eq.trans (e1 hG PT_181 k181_514 _ _ _) ?_
                              refine bfc ?_ ?_
                              · rfl
                              · show G 181 517 [some (.inr (.inr x0)), some (.inr (.inr x1)), some (.inr (.inr x2)), some (.inl x3)] [] u101.2 = _
                                refine Eq.trans (e1 hG PT_181 k181_517 _ _ _) ?_
                                show G 181 518 [some (.inr (.inr x0)), some (.inr (.inr x1)), some (.inr (.inr x2)), some (.inl x3)] [.inl 0] u101.2 = _
                                exact e1 hG PT_181 k181_518 _ _ _
                            · rfl
                          · rfl
                        · refine bfc ?_ ?_
                          · show G 181 519 [some (.inr (.inr x0)), some (.inr (.inr x1)), some (.inr (.inr x2)), some (.inl x3)] [] H = _
                            refine Eq.trans (e1 hG PT_181 k181_519 _ _ _) ?_
                            show G 181 520 [some (.inr (.inr x0)), some (.inr (.inr x1)), some (.inr (.inr x2)), some (.inl x3)] [.inr (.inr x1)] H = _
                            refine Eq.trans (e1 hG PT_181 k181_520 _ _ _) ?_
                            show G 181 521 [some (.inr (.inr x0)), some (.inr (.inr x1)), some (.inr (.inr x2)), some (.inl x3)] [.inr (.inr x0), .inr (.inr x1)] H = _
                            refine Eq.trans (e1 hG PT_181 k181_521 _ _ _) ?_
                            show G 181 522 [some (.inr (.inr x0)), some (.inr (.inr x1)), some (.inr (.inr x2)), some (.inl x3)] [.inl x3, .inr (.inr x0), .inr (.inr x1)] H = _
                            refine Eq.trans (e1 hG PT_181 k181_522 _ _ _) ?_
                            show G 181 523 [some (.inr (.inr x0)), some (.inr (.inr x1)), some (.inr (.inr x2)), some (.inl x3)] [.inl 1, .inl x3, .inr (.inr x0), .inr (.inr x1)] H = _
                            refine Eq.trans (e1 hG PT_181 k181_523 _ _ _) ?_
                            show G 181 524 [some (.inr (.inr x0)), some (.inr (.inr x1)), some (.inr (.inr x2)), some (.inl x3)] [.inl (x3 + 1), .inr (.inr x0), .inr (.inr x1)] H = _
                            refine Eq.trans (e1 hG PT_181 k181_524 _ _ _) ?_
                            refine bdc fun i83 => ?_
                            show G 181 525 [some (.inr (.inr x0)), some (.inr (.inr x1)), some (.inr (.inr x2)), some (.inl x3)] [.inl i83, .inr (.inr x1)] H = _
                            refine Eq.trans (e1 hG PT_181 k181_525 _ _ _) ?_
                            show G 181 526 [some (.inr (.inr x0)), some (.inr (.inr x1)), some (.inr (.inr x2)), some (.inl x3)] [.inr (.inr x0), .inl i83, .inr (.inr x1)] H = _
                            refine Eq.trans (e1 hG PT_181 k181_526 _ _ _) ?_
                            show G 181 527 [some (.inr (.inr x0)), some (.inr (.inr x1)), some (.inr (.inr x2)), some (.inl x3)] [.inl x3, .inr (.inr x0), .inl i83, .inr (.inr x1)] H = _
                            refine Eq.trans (e1 hG PT_181 k181_527 _ _ _) ?_
                            show G 181 528 [some (.inr (.inr x0)), some (.inr (.inr x1)), some (.inr (.inr x2)), some (.inl x3)] [.inl 2, .inl x3, .inr (.inr x0), .inl i83, .inr (.inr x1)] H = _
                            refine Eq.trans (e1 hG PT_181 k181_528 _ _ _) ?_
                            show G 181 529 [some (.inr (.inr x0)), some (.inr (.inr x1)), some (.inr (.inr x2)), some (.inl x3)] [.inl (x3 + 2), .inr (.inr x0), .inl i83, .inr (.inr x1)] H = _
                            refine Eq.trans (e1 hG PT_181 k181_529 _ _ _) ?_
                            refine bdc fun i84 => ?_
                            show G 181 530 [some (.inr (.inr x0)), some (.inr (.inr x1)), some (.inr (.inr x2)), some (.inl x3)] [.inl i84, .inl i83, .inr (.inr x1)] H = _
                            refine Eq.trans (e1 hG PT_181 k181_530 _ _ _) ?_
                            show G 181 531 [some (.inr (.inr x0)), some (.inr (.inr x1)), some (.inr (.inr x2)), some (.inl x3)] [.inr (.inr x0), .inl i84, .inl i83, .inr (.inr x1)] H = _
                            refine Eq.trans (e1 hG PT_181 k181_531 _ _ _) ?_
                            show G 181 532 [some (.inr (.inr x0)), some (.inr (.inr x1)), some (.inr (.inr x2)), some (.inl x3)] [.inl x3, .inr (.inr x0), .inl i84, .inl i83, .inr (.inr x1)] H = _
                            refine Eq.trans (e1 hG PT_181 k181_532 _ _ _) ?_
                            show G 181 533 [some (.inr (.inr x0)), some (.inr (.inr x1)), some (.inr (.inr x2)), some (.inl x3)] [.inl 3, .inl x3, .inr (.inr x0), .inl i84, .inl i83, .inr (.inr x1)] H = _
                            refine Eq.trans (e1 hG PT_181 k181_533 _ _ _) ?_
                            show G 181 534 [some (.inr (.inr x0)), some (.inr (.inr x1)), some (.inr (.inr x2)), some (.inl x3)] [.inl (x3 + 3), .inr (.inr x0), .inl i84, .inl i83, .inr (.inr x1)] H = _
                            refine Eq.trans (e1 hG PT_181 k181_534 _ _ _) ?_
                            refine bdc fun i85 => ?_
                            show G 181 535 [some (.inr (.inr x0)), some (.inr (.inr x1)), some (.inr (.inr x2)), some (.inl x3)] [.inl i85, .inl i84, .inl i83, .inr (.inr x1)] H = _
                            refine Eq.trans (e1 hG PT_181 k181_535 _ _ _) ?_
                            refine bfc ?_ ?_
                            · refine bdc fun u86 => ?_
                              refine bdc fun i87 => ?_
                              show G 181 538 [some (.inr (.inr x0)), some (.inr (.inr x1)), some (.inr (.inr x2)), some (.inl x3)] [.inl i87] u86.2 = _
                              refine Eq.trans (e1 hG PT_181 k181_538 _ _ _) ?_
                              show G 181 539 [some (.inr (.inr x0)), some (.inr (.inr x1)), some (.inr (.inr x2)), some (.inl x3)] [.inr (.inr x2), .inl i87] u86.2 = _
                              refine Eq.trans (e1 hG PT_181 k181_539 _ _ _) ?_
                              show G 181 540 [some (.inr (.inr x0)), some (.inr (.inr x1)), some (.inr (.inr x2)), some (.inl x3)] [.inr (.inr x0), .inr (.inr x2), .inl i87] u86.2 = _
                              refine Eq.trans (e1 hG PT_181 k181_540 _ _ _) ?_
                              show G 181 541 [some (.inr (.inr x0)), some (.inr (.inr x1)), some (.inr (.inr x2)), some (.inl x3)] [.inl x3, .inr (.inr x0), .inr (.inr x2), .inl i87] u86.2 = _
                              refine Eq.trans (e1 hG PT_181 k181_541 _ _ _) ?_
                              show G 181 542 [some (.inr (.inr x0)), some (.inr (.inr x1)), some (.inr (.inr x2)), some (.inl x3)] [.inl 1, .inl x3, .inr (.inr x0), .inr (.inr x2), .inl i87] u86.2 = _
                              refine Eq.trans (e1 hG PT_181 k181_542 _ _ _) ?_
                              show G 181 543 [some (.inr (.inr x0)), some (.inr (.inr x1)), some (.inr (.inr x2)), some (.inl x3)] [.inl (x3 + 1), .inr (.inr x0), .inr (.inr x2), .inl i87] u86.2 = _
                              refine Eq.trans (e1 hG PT_181 k181_543 _ _ _) ?_
                              refine bdc fun i88 => ?_
                              show G 181 544 [some (.inr (.inr x0)), some (.inr (.inr x1)), some (.inr (.inr x2)), some (.inl x3)] [.inl i88, .inr (.inr x2), .inl i87] u86.2 = _
                              refine Eq.trans (e1 hG PT_181 k181_544 _ _ _) ?_
                              show G 181 545 [some (.inr (.inr x0)), some (.inr (.inr x1)), some (.inr (.inr x2)), some (.inl x3)] [.inr (.inr x0), .inl i88, .inr (.inr x2), .inl i87] u86.2 = _
                              refine Eq.trans (e1 hG PT_181 k181_545 _ _ _) ?_
                              show G 181 546 [some (.inr (.inr x0)), some (.inr (.inr x1)), some (.inr (.inr x2)), some (.inl x3)] [.inl x3, .inr (.inr x0), .inl i88, .inr (.inr x2), .inl i87] u86.2 = _
                              refine Eq.trans (e1 hG PT_181 k181_546 _ _ _) ?_
                              show G 181 547 [some (.inr (.inr x0)), some (.inr (.inr x1)), some (.inr (.inr x2)), some (.inl x3)] [.inl 2, .inl x3, .inr (.inr x0), .inl i88, .inr (.inr x2), .inl i87] u86.2 = _
                              refine Eq.trans (e1 hG PT_181 k181_547 _ _ _) ?_
                              show G 181 548 [some (.inr (.inr x0)), some (.inr (.inr x1)), some (.inr (.inr x2)), some (.inl x3)] [.inl (x3 + 2), .inr (.inr x0), .inl i88, .inr (.inr x2), .inl i87] u86.2 = _
                              refine Eq.trans (e1 hG PT_181 k181_548 _ _ _) ?_
                              refine bdc fun i89 => ?_
                              show G 181 549 [some (.inr (.inr x0)), some (.inr (.inr x1)), some (.inr (.inr x2)), some (.inl x3)] [.inl i89, .inl i88, .inr (.inr x2), .inl i87] u86.2 = _
                              refine Eq.trans (e1 hG PT_181 k181_549 _ _ _) ?_
                              show G 181 550 [some (.inr (.inr x0)), some (.inr (.inr x1)), some (.inr (.inr x2)), some (.inl x3)] [.inr (.inr x0), .inl i89, .inl i88, .inr (.inr x2), .inl i87] u86.2 = _
                              refine Eq.trans (e1 hG PT_181 k181_550 _ _ _) ?_
                              show G 181 551 [some (.inr (.inr x0)), some (.inr (.inr x1)), some (.inr (.inr x2)), some (.inl x3)] [.inl x3, .inr (.inr x0), .inl i89, .inl i88, .inr (.inr x2), .inl i87] u86.2 = _
                              refine Eq.trans (e1 hG PT_181 k181_551 _ _ _) ?_
                              show G 181 552 [some (.inr (.inr x0)), some (.inr (.inr x1)), some (.inr (.inr x2)), some (.inl x3)] [.inl 3, .inl x3, .inr (.inr x0), .inl i89, .inl i88, .inr (.inr x2), .inl i87] u86.2 = _
                              refine Eq.trans (e1 hG PT_181 k181_552 _ _ _) ?_
                              show G 181 553 [some (.inr (.inr x0)), some (.inr (.inr x1)), some (.inr (.inr x2)), some (.inl x3)] [.inl (x3 + 3), .inr (.inr x0), .inl i89, .inl i88, .inr (.inr x2), .inl i87] u86.2 = _
                              refine Eq.trans (e1 hG PT_181 k181_553 _ _ _) ?_
                              refine bdc fun i90 => ?_
                              show G 181 554 [some (.inr (.inr x0)), some (.inr (.inr x1)), some (.inr (.inr x2)), some (.inl x3)] [.inl i90, .inl i89, .inl i88, .inr (.inr x2), .inl i87] u86.2 = _
                              refine Eq.trans (e1 hG PT_181 k181_554 _ _ _) ?_
                              refine bfc ?_ ?_
                              · refine bdc fun u91 => ?_
                                refine bdc fun i92 => ?_
                                show G 181 557 [some (.inr (.inr x0)), some (.inr (.inr x1)), some (.inr (.inr x2)), some (.inl x3)] [.inl i92, .inl i87] u91.2 = _
                                refine Eq.trans (e1 hG PT_181 k181_557 _ _ _) ?_
                                refine bfc ?_ ?_
                                · rfl
                                · show G 181 560 [some (.inr (.inr x0)), some (.inr (.inr x1)), some (.inr (.inr x2)), some (.inl x3)] [] u91.2 = _
                                  refine Eq.trans (e1 hG PT_181 k181_560 _ _ _) ?_
                                  show G 181 561 [some (.inr (.inr x0)), some (.inr (.inr x1)), some (.inr (.inr x2)), some (.inl x3)] [.inl 0] u91.2 = _
                                  exact e1 hG PT_181 k181_561 _ _ _
                              · rfl
                            · rfl
                          · refine bfc ?_ ?_
                            · show G 181 562 [some (.inr (.inr x0)), some (.inr (.inr x1)), some (.inr (.inr x2)), some (.inl x3)] [] H = _
                              refine Eq.trans (e1 hG PT_181 k181_562 _ _ _) ?_
                              show G 181 563 [some (.inr (.inr x0)), some (.inr (.inr x1)), some (.inr (.inr x2)), some (.inl x3)] [.inr (.inr x1)] H = _
                              refine Eq.trans (e1 hG PT_181 k181_563 _ _ _) ?_
                              show G 181 564 [some (.inr (.inr x0)), some (.inr (.inr x1)), some (.inr (.inr x2)), some (.inl x3)] [.inr (.inr x0), .inr (.inr x1)] H = _
                              refine Eq.trans (e1 hG PT_181 k181_564 _ _ _) ?_
                              show G 181 565 [some (.inr (.inr x0)), some (.inr (.inr x1)), some (.inr (.inr x2)), some (.inl x3)] [.inl x3, .inr (.inr x0), .inr (.inr x1)] H = _
                              refine Eq.trans (e1 hG PT_181 k181_565 _ _ _) ?_
                              show G 181 566 [some (.inr (.inr x0)), some (.inr (.inr x1)), some (.inr (.inr x2)), some (.inl x3)] [.inl 1, .inl x3, .inr (.inr x0), .inr (.inr x1)] H = _
                              refine Eq.trans (e1 hG PT_181 k181_566 _ _ _) ?_
                              show G 181 567 [some (.inr (.inr x0)), some (.inr (.inr x1)), some (.inr (.inr x2)), some (.inl x3)] [.inl (x3 + 1), .inr (.inr x0), .inr (.inr x1)] H = _
                              refine Eq.trans (e1 hG PT_181 k181_567 _ _ _) ?_
                              refine bdc fun i77 => ?_
                              show G 181 568 [some (.inr (.inr x0)), some (.inr (.inr x1)), some (.inr (.inr x2)), some (.inl x3)] [.inl i77, .inr (.inr x1)] H = _
                              refine Eq.trans (e1 hG PT_181 k181_568 _ _ _) ?_
                              refine bfc ?_ ?_
                              · refine bdc fun u78 => ?_
                                refine bdc fun i79 => ?_
                                show G 181 571 [some (.inr (.inr x0)), some (.inr (.inr x1)), some (.inr (.inr x2)), some (.inl x3)] [.inl i79] u78.2 = _
                                refine Eq.trans (e1 hG PT_181 k181_571 _ _ _) ?_
                                show G 181 572 [some (.inr (.inr x0)), some (.inr (.inr x1)), some (.inr (.inr x2)), some (.inl x3)] [.inr (.inr x2), .inl i79] u78.2 = _
                                refine Eq.trans (e1 hG PT_181 k181_572 _ _ _) ?_
                                show G 181 573 [some (.inr (.inr x0)), some (.inr (.inr x1)), some (.inr (.inr x2)), some (.inl x3)] [.inr (.inr x0), .inr (.inr x2), .inl i79] u78.2 = _
                                refine Eq.trans (e1 hG PT_181 k181_573 _ _ _) ?_
                                show G 181 574 [some (.inr (.inr x0)), some (.inr (.inr x1)), some (.inr (.inr x2)), some (.inl x3)] [.inl x3, .inr (.inr x0), .inr (.inr x2), .inl i79] u78.2 = _
                                refine Eq.trans (e1 hG PT_181 k181_574 _ _ _) ?_
                                show G 181 575 [some (.inr (.inr x0)), some (.inr (.inr x1)), some (.inr (.inr x2)), some (.inl x3)] [.inl 1, .inl x3, .inr (.inr x0), .inr (.inr x2), .inl i79] u78.2 = _
                                refine Eq.trans (e1 hG PT_181 k181_575 _ _ _) ?_
                                show G 181 576 [some (.inr (.inr x0)), some (.inr (.inr x1)), some (.inr (.inr x2)), some (.inl x3)] [.inl (x3 + 1), .inr (.inr x0), .inr (.inr x2), .inl i79] u78.2 = _
                                refine Eq.trans (e1 hG PT_181 k181_576 _ _ _) ?_
                                refine bdc fun i80 => ?_
                                show G 181 577 [some (.inr (.inr x0)), some (.inr (.inr x1)), some (.inr (.inr x2)), some (.inl x3)] [.inl i80, .inr (.inr x2), .inl i79] u78.2 = _
                                refine Eq.trans (e1 hG PT_181 k181_577 _ _ _) ?_
                                refine bfc ?_ ?_
                                · refine bdc fun u81 => ?_
                                  refine bdc fun i82 => ?_
                                  show G 181 580 [some (.inr (.inr x0)), some (.inr (.inr x1)), some (.inr (.inr x2)), some (.inl x3)] [.inl i82, .inl i79] u81.2 = _
                                  refine Eq.trans (e1 hG PT_181 k181_580 _ _ _) ?_
                                  refine bfc ?_ ?_
                                  · rfl
                                  · show G 181 583 [some (.inr (.inr x0)), some (.inr (.inr x1)), some (.inr (.inr x2)), some (.inl x3)] [] u81.2 = _
                                    refine Eq.trans (e1 hG PT_181 k181_583 _ _ _) ?_
                                    show G 181 584 [some (.inr (.inr x0)), some (.inr (.inr x1)), some (.inr (.inr x2)), some (.inl x3)] [.inl 0] u81.2 = _
                                    exact e1 hG PT_181 k181_584 _ _ _
                                · rfl
                              · rfl
                            · refine bfc ?_ ?_
                              · show G 181 585 [some (.inr (.inr x0)), some (.inr (.inr x1)), some (.inr (.inr x2)), some (.inl x3)] [] H = _
                                refine Eq.trans (e1 hG PT_181 k181_585 _ _ _) ?_
                                show G 181 586 [some (.inr (.inr x0)), some (.inr (.inr x1)), some (.inr (.inr x2)), some (.inl x3)] [.inr (.inr x1)] H = _
                                refine Eq.trans (e1 hG PT_181 k181_586 _ _ _) ?_
                                show G 181 587 [some (.inr (.inr x0)), some (.inr (.inr x1)), some (.inr (.inr x2)), some (.inl x3)] [.inr (.inr x0), .inr (.inr x1)] H = _
                                refine Eq.trans (e1 hG PT_181 k181_587 _ _ _) ?_
                                show G 181 588 [some (.inr (.inr x0)), some (.inr (.inr x1)), some (.inr (.inr x2)), some (.inl x3)] [.inl x3, .inr (.inr x0), .inr (.inr x1)] H = _
                                refine Eq.trans (e1 hG PT_181 k181_588 _ _ _) ?_
                                show G 181 589 [some (.inr (.inr x0)), some (.inr (.inr x1)), some (.inr (.inr x2)), some (.inl x3)] [.inl 1, .inl x3, .inr (.inr x0), .inr (.inr x1)] H = _
                                refine Eq.trans (e1 hG PT_181 k181_589 _ _ _) ?_
                                show G 181 590 [some (.inr (.inr x0)), some (.inr (.inr x1)), some (.inr (.inr x2)), some (.inl x3)] [.inl (x3 + 1), .inr (.inr x0), .inr (.inr x1)] H = _
                                refine Eq.trans (e1 hG PT_181 k181_590 _ _ _) ?_
                                refine bdc fun i69 => ?_
                                show G 181 591 [some (.inr (.inr x0)), some (.inr (.inr x1)), some (.inr (.inr x2)), some (.inl x3)] [.inl i69, .inr (.inr x1)] H = _
                                refine Eq.trans (e1 hG PT_181 k181_591 _ _ _) ?_
                                show G 181 592 [some (.inr (.inr x0)), some (.inr (.inr x1)), some (.inr (.inr x2)), some (.inl x3)] [.inr (.inr x0), .inl i69, .inr (.inr x1)] H = _
                                refine Eq.trans (e1 hG PT_181 k181_592 _ _ _) ?_
                                show G 181 593 [some (.inr (.inr x0)), some (.inr (.inr x1)), some (.inr (.inr x2)), some (.inl x3)] [.inl x3, .inr (.inr x0), .inl i69, .inr (.inr x1)] H = _
                                refine Eq.trans (e1 hG PT_181 k181_593 _ _ _) ?_
                                show G 181 594 [some (.inr (.inr x0)), some (.inr (.inr x1)), some (.inr (.inr x2)), some (.inl x3)] [.inl 2, .inl x3, .inr (.inr x0), .inl i69, .inr (.inr x1)] H = _
                                refine Eq.trans (e1 hG PT_181 k181_594 _ _ _) ?_
                                show G 181 595 [some (.inr (.inr x0)), some (.inr (.inr x1)), some (.inr (.inr x2)), some (.inl x3)] [.inl (x3 + 2), .inr (.inr x0), .inl i69, .inr (.inr x1)] H = _
                                refine Eq.trans (e1 hG PT_181 k181_595 _ _ _) ?_
                                refine bdc fun i70 => ?_
                                show G 181 596 [some (.inr (.inr x0)), some (.inr (.inr x1)), some (.inr (.inr x2)), some (.inl x3)] [.inl i70, .inl i69, .inr (.inr x1)] H = _
                                refine Eq.trans (e1 hG PT_181 k181_596 _ _ _) ?_
                                refine bfc ?_ ?_
                                · refine bdc fun u71 => ?_
                                  refine bdc fun i72 => ?_
                                  show G 181 599 [some (.inr (.inr x0)), some (.inr (.inr x1)), some (.inr (.inr x2)), some (.inl x3)] [.inl i72] u71.2 = _
                                  refine Eq.trans (e1 hG PT_181 k181_599 _ _ _) ?_
                                  show G 181 600 [some (.inr (.inr x0)), some (.inr (.inr x1)), some (.inr (.inr x2)), some (.inl x3)] [.inr (.inr x2), .inl i72] u71.2 = _
                                  refine Eq.trans (e1 hG PT_181 k181_600 _ _ _) ?_
                                  show G 181 601 [some (.inr (.inr x0)), some (.inr (.inr x1)), some (.inr (.inr x2)), some (.inl x3)] [.inr (.inr x0), .inr (.inr x2), .inl i72] u71.2 = _
                                  refine Eq.trans (e1 hG PT_181 k181_601 _ _ _) ?_
                                  show G 181 602 [some (.inr (.inr x0)), some (.inr (.inr x1)), some (.inr (.inr x2)), some (.inl x3)] [.inl x3, .inr (.inr x0), .inr (.inr x2), .inl i72] u71.2 = _
                                  refine Eq.trans (e1 hG PT_181 k181_602 _ _ _) ?_
                                  show G 181 603 [some (.inr (.inr x0)), some (.inr (.inr x1)), some (.inr (.inr x2)), some (.inl x3)] [.inl 1, .inl x3, .inr (.inr x0), .inr (.inr x2), .inl i72] u71.2 = _
                                  refine Eq.trans (e1 hG PT_181 k181_603 _ _ _) ?_
                                  show G 181 604 [some (.inr (.inr x0)), some (.inr (.inr x1)), some (.inr (.inr x2)), some (.inl x3)] [.inl (x3 + 1), .inr (.inr x0), .inr (.inr x2), .inl i72] u71.2 = _
                                  refine Eq.trans (e1 hG PT_181 k181_604 _ _ _) ?_
                                  refine bdc fun i73 => ?_
                                  show G 181 605 [some (.inr (.inr x0)), some (.inr (.inr x1)), some (.inr (.inr x2)), some (.inl x3)] [.inl i73, .inr (.inr x2), .inl i72] u71.2 = _
                                  refine Eq.trans (e1 hG PT_181 k181_605 _ _ _) ?_
                                  show G 181 606 [some (.inr (.inr x0)), some (.inr (.inr x1)), some (.inr (.inr x2)), some (.inl x3)] [.inr (.inr x0), .inl i73, .inr (.inr x2), .inl i72] u71.2 = _
                                  refine Eq.trans (e1 hG PT_181 k181_606 _ _ _) ?_
                                  show G 181 607 [some (.inr (.inr x0)), some (.inr (.inr x1)), some (.inr (.inr x2)), some (.inl x3)] [.inl x3, .inr (.inr x0), .inl i73, .inr (.inr x2), .inl i72] u71.2 = _
                                  refine Eq.trans (e1 hG PT_181 k181_607 _ _ _) ?_
                                  show G 181 608 [some (.inr (.inr x0)), some (.inr (.inr x1)), some (.inr (.inr x2)), some (.inl x3)] [.inl 2, .inl x3, .inr (.inr x0), .inl i73, .inr (.inr x2), .inl i72] u71.2 = _
                                  refine Eq.trans (e1 hG PT_181 k181_608 _ _ _) ?_
                                  show G 181 609 [some (.inr (.inr x0)), some (.inr (.inr x1)), some (.inr (.inr x2)), some (.inl x3)] [.inl (x3 + 2), .inr (.inr x0), .inl i73, .inr (.inr x2), .inl i72] u71.2 = _
                                  refine Eq.trans (e1 hG PT_181 k181_609 _ _ _) ?_
                                  refine bdc fun i74 => ?_
                                  show G 181 610 [some (.inr (.inr x0)), some (.inr (.inr x1)), some (.inr (.inr x2)), some (.inl x3)] [.inl i74, .inl i73, .inr (.inr x2), .inl i72] u71.2 = _
                                  refine Eq.trans (e1 hG PT_181 k181_610 _ _ _) ?_
                                  refine bfc ?_ ?_
                                  · refine bdc fun u75 => ?_
                                    refine bdc fun i76 => ?_
                                    show G 181 613 [some (.inr (.inr x0)), some (.inr (.inr x1)), some (.inr (.inr x2)), some (.inl x3)] [.inl i76, .inl i72] u75.2 = _
                                    refine Eq.trans (e1 hG PT_181 k181_613 _ _ _) ?_
                                    refine bfc ?_ ?_
                                    · rfl
                                    · show G 181 616 [some (.inr (.inr x0)), some (.inr (.inr x1)), some (.inr (.inr x2)), some (.inl x3)] [] u75.2 = _
                                      refine Eq.trans (e1 hG PT_181 k181_616 _ _ _) ?_
                                      show G 181 617 [some (.inr (.inr x0)), some (.inr (.inr x1)), some (.inr (.inr x2)), some (.inl x3)] [.inl 0] u75.2 = _
                                      exact e1 hG PT_181 k181_617 _ _ _
                                  · rfl
                                · rfl
                              · refine bfc ?_ ?_
                                · show G 181 618 [some (.inr (.inr x0)), some (.inr (.inr x1)), some (.inr (.inr x2)), some (.inl x3)] [] H = _
                                  refine Eq.trans (e1 hG PT_181 k181_618 _ _ _) ?_
                                  show G 181 619 [some (.inr (.inr x0)), some (.inr (.inr x1)), some (.inr (.inr x2)), some (.inl x3)] [.inr (.inr x1)] H = _
                                  refine Eq.trans (e1 hG PT_181 k181_619 _ _ _) ?_
                                  show G 181 620 [some (.inr (.inr x0)), some (.inr (.inr x1)), some (.inr (.inr x2)), some (.inl x3)] [.inr (.inr x0), .inr (.inr x1)] H = _
                                  refine Eq.trans (e1 hG PT_181 k181_620 _ _ _) ?_
                                  show G 181 621 [some (.inr (.inr x0)), some (.inr (.inr x1)), some (.inr (.inr x2)), some (.inl x3)] [.inl x3, .inr (.inr x0), .inr (.inr x1)] H = _
                                  refine Eq.trans (e1 hG PT_181 k181_621 _ _ _) ?_
                                  show G 181 622 [some (.inr (.inr x0)), some (.inr (.inr x1)), some (.inr (.inr x2)), some (.inl x3)] [.inl 1, .inl x3, .inr (.inr x0), .inr (.inr x1)] H = _
                                  refine Eq.trans (e1 hG PT_181 k181_622 _ _ _) ?_
                                  show G 181 623 [some (.inr (.inr x0)), some (.inr (.inr x1)), some (.inr (.inr x2)), some (.inl x3)] [.inl (x3 + 1), .inr (.inr x0), .inr (.inr x1)] H = _
                                  refine Eq.trans (e1 hG PT_181 k181_623 _ _ _) ?_
                                  refine bdc fun i57 => ?_
                                  show G 181 624 [some (.inr (.inr x0)), some (.inr (.inr x1)), some (.inr (.inr x2)), some (.inl x3)] [.inl i57, .inr (.inr x1)] H = _
                                  refine Eq.trans (e1 hG PT_181 k181_624 _ _ _) ?_
                                  show G 181 625 [some (.inr (.inr x0)), some (.inr (.inr x1)), some (.inr (.inr x2)), some (.inl x3)] [.inr (.inr x0), .inl i57, .inr (.inr x1)] H = _
                                  refine Eq.trans (e1 hG PT_181 k181_625 _ _ _) ?_
                                  show G 181 626 [some (.inr (.inr x0)), some (.inr (.inr x1)), some (.inr (.inr x2)), some (.inl x3)] [.inl x3, .inr (.inr x0), .inl i57, .inr (.inr x1)] H = _
                                  refine Eq.trans (e1 hG PT_181 k181_626 _ _ _) ?_
                                  show G 181 627 [some (.inr (.inr x0)), some (.inr (.inr x1)), some (.inr (.inr x2)), some (.inl x3)] [.inl 2, .inl x3, .inr (.inr x0), .inl i57, .inr (.inr x1)] H = _
                                  refine Eq.trans (e1 hG PT_181 k181_627 _ _ _) ?_
                                  show G 181 628 [some (.inr (.inr x0)), some (.inr (.inr x1)), some (.inr (.inr x2)), some (.inl x3)] [.inl (x3 + 2), .inr (.inr x0), .inl i57, .inr (.inr x1)] H = _
                                  refine Eq.trans (e1 hG PT_181 k181_628 _ _ _) ?_
                                  refine bdc fun i58 => ?_
                                  show G 181 629 [some (.inr (.inr x0)), some (.inr (.inr x1)), some (.inr (.inr x2)), some (.inl x3)] [.inl i58, .inl i57, .inr (.inr x1)] H = _
                                  refine Eq.trans (e1 hG PT_181 k181_629 _ _ _) ?_
                                  show G 181 630 [some (.inr (.inr x0)), some (.inr (.inr x1)), some (.inr (.inr x2)), some (.inl x3)] [.inr (.inr x0), .inl i58, .inl i57, .inr (.inr x1)] H = _
                                  refine Eq.trans (e1 hG PT_181 k181_630 _ _ _) ?_
                                  show G 181 631 [some (.inr (.inr x0)), some (.inr (.inr x1)), some (.inr (.inr x2)), some (.inl x3)] [.inl x3, .inr (.inr x0), .inl i58, .inl i57, .inr (.inr x1)] H = _
                                  refine Eq.trans (e1 hG PT_181 k181_631 _ _ _) ?_
                                  show G 181 632 [some (.inr (.inr x0)), some (.inr (.inr x1)), some (.inr (.inr x2)), some (.inl x3)] [.inl 3, .inl x3, .inr (.inr x0), .inl i58, .inl i57, .inr (.inr x1)] H = _
                                  refine Eq.trans (e1 hG PT_181 k181_632 _ _ _) ?_
                                  show G 181 633 [some (.inr (.inr x0)), some (.inr (.inr x1)), some (.inr (.inr x2)), some (.inl x3)] [.inl (x3 + 3), .inr (.inr x0), .inl i58, .inl i57, .inr (.inr x1)] H = _
                                  refine Eq.trans (e1 hG PT_181 k181_633 _ _ _) ?_
                                  refine bdc fun i59 => ?_
                                  show G 181 634 [some (.inr (.inr x0)), some (.inr (.inr x1)), some (.inr (.inr x2)), some (.inl x3)] [.inl i59, .inl i58, .inl i57, .inr (.inr x1)] H = _
                                  refine Eq.trans (e1 hG PT_181 k181_634 _ _ _) ?_
                                  show G 181 635 [some (.inr (.inr x0)), some (.inr (.inr x1)), some (.inr (.inr x2)), some (.inl x3)] [.inr (.inr x0), .inl i59, .inl i58, .inl i57, .inr (.inr x1)] H = _
                                  refine Eq.trans (e1 hG PT_181 k181_635 _ _ _) ?_
                                  show G 181 636 [some (.inr (.inr x0)), some (.inr (.inr x1)), some (.inr (.inr x2)), some (.inl x3)] [.inl x3, .inr (.inr x0), .inl i59, .inl i58, .inl i57, .inr (.inr x1)] H = _
                                  refine Eq.trans (e1 hG PT_181 k181_636 _ _ _) ?_
                                  show G 181 637 [some (.inr (.inr x0)), some (.inr (.inr x1)), some (.inr (.inr x2)), some (.inl x3)] [.inl 4, .inl x3, .inr (.inr x0), .inl i59, .inl i58, .inl i57, .inr (.inr x1)] H = _
                                  refine Eq.trans (e1 hG PT_181 k181_637 _ _ _) ?_
                                  show G 181 638 [some (.inr (.inr x0)), some (.inr (.inr x1)), some (.inr (.inr x2)), some (.inl x3)] [.inl (x3 + 4), .inr (.inr x0), .inl i59, .inl i58, .inl i57, .inr (.inr x1)] H = _
                                  refine Eq.trans (e1 hG PT_181 k181_638 _ _ _) ?_
                                  refine bdc fun i60 => ?_
                                  show G 181 639 [some (.inr (.inr x0)), some (.inr (.inr x1)), some (.inr (.inr x2)), some (.inl x3)] [.inl i60, .inl i59, .inl i58, .inl i57, .inr (.inr x1)] H = _
                                  refine Eq.trans (e1 hG PT_181 k181_639 _ _ _) ?_
                                  refine bfc ?_ ?_
                                  · refine bdc fun u61 => ?_
                                    refine bdc fun j62 => ?_
                                    show G 181 642 [some (.inr (.inr x0)), some (.inr (.inr x1)), some (.inr (.inr x2)), some (.inl x3)] [.inr (.inl j62)] u61.2 = _
                                    refine Eq.trans (e1 hG PT_181 k181_642 _ _ _) ?_
                                    show G 181 643 [some (.inr (.inr x0)), some (.inr (.inr x1)), some (.inr (.inr x2)), some (.inl x3)] [.inr (.inr x2), .inr (.inl j62)] u61.2 = _
                                    refine Eq.trans (e1 hG PT_181 k181_643 _ _ _) ?_
                                    show G 181 644 [some (.inr (.inr x0)), some (.inr (.inr x1)), some (.inr (.inr x2)), some (.inl x3)] [.inr (.inr x0), .inr (.inr x2), .inr (.inl j62)] u61.2 = _
                                    refine Eq.trans (e1 hG PT_181 k181_644 _ _ _) ?_
                                    show G 181 645 [some (.inr (.inr x0)), some (.inr (.inr x1)), some (.inr (.inr x2)), some (.inl x3)] [.inl x3, .inr (.inr x0), .inr (.inr x2), .inr (.inl j62)] u61.2 = _
                                    refine Eq.trans (e1 hG PT_181 k181_645 _ _ _) ?_
                                    show G 181 646 [some (.inr (.inr x0)), some (.inr (.inr x1)), some (.inr (.inr x2)), some (.inl x3)] [.inl 1, .inl x3, .inr (.inr x0), .inr (.inr x2), .inr (.inl j62)] u61.2 = _
                                    refine Eq.trans (e1 hG PT_181 k181_646 _ _ _) ?_
                                    show G 181 647 [some (.inr (.inr x0)), some (.inr (.inr x1)), some (.inr (.inr x2)), some (.inl x3)] [.inl (x3 + 1), .inr (.inr x0), .inr (.inr x2), .inr (.inl j62)] u61.2 = _
                                    refine Eq.trans (e1 hG PT_181 k181_647 _ _ _) ?_
                                    refine bdc fun i63 => ?_
                                    show G 181 648 [some (.inr (.inr x0)), some (.inr (.inr x1)), some (.inr (.inr x2)), some (.inl x3)] [.inl i63, .inr (.inr x2), .inr (.inl j62)] u61.2 = _
                                    refine Eq.trans (e1 hG PT_181 k181_648 _ _ _) ?_
                                    show G 181 649 [some (.inr (.inr x0)), some (.inr (.inr x1)), some (.inr (.inr x2)), some (.inl x3)] [.inr (.inr x0), .inl i63, .inr (.inr x2), .inr (.inl j62)] u61.2 = _
                                    refine Eq.trans (e1 hG PT_181 k181_649 _ _ _) ?_
                                    show G 181 650 [some (.inr (.inr x0)), some (.inr (.inr x1)), some (.inr (.inr x2)), some (.inl x3)] [.inl x3, .inr (.inr x0), .inl i63, .inr (.inr x2), .inr (.inl j62)] u61.2 = _
                                    refine Eq.trans (e1 hG PT_181 k181_650 _ _ _) ?_
                                    show G 181 651 [some (.inr (.inr x0)), some (.inr (.inr x1)), some (.inr (.inr x2)), some (.inl x3)] [.inl 2, .inl x3, .inr (.inr x0), .inl i63, .inr (.inr x2), .inr (.inl j62)] u61.2 = _
                                    refine Eq.trans (e1 hG PT_181 k181_651 _ _ _) ?_
                                    show G 181 652 [some (.inr (.inr x0)), some (.inr (.inr x1)), some (.inr (.inr x2)), some (.inl x3)] [.inl (x3 + 2), .inr (.inr x0), .inl i63, .inr (.inr x2), .inr (.inl j62)] u61.2 = _
                                    refine Eq.trans (e1 hG PT_181 k181_652 _ _ _) ?_
                                    refine bdc fun i64 => ?_
                                    show G 181 653 [some (.inr (.inr x0)), some (.inr (.inr x1)), some (.inr (.inr x2)), some (.inl x3)] [.inl i64, .inl i63, .inr (.inr x2), .inr (.inl j62)] u61.2 = _
                                    refine Eq.trans (e1 hG PT_181 k181_653 _ _ _) ?_
                                    show G 181 654 [some (.inr (.inr x0)), some (.inr (.inr x1)), some (.inr (.inr x2)), some (.inl x3)] [.inr (.inr x0), .inl i64, .inl i63, .inr (.inr x2), .inr (.inl j62)] u61.2 = _
                                    refine Eq.trans (e1 hG PT_181 k181_654 _ _ _) ?_
                                    show G 181 655 [some (.inr (.inr x0)), some (.inr (.inr x1)), some (.inr (.inr x2)), some (.inl x3)] [.inl x3, .inr (.inr x0), .inl i64, .inl i63, .inr (.inr x2), .inr (.inl j62)] u61.2 = _
                                    refine Eq.trans (e1 hG PT_181 k181_655 _ _ _) ?_
                                    show G 181 656 [some (.inr (.inr x0)), some (.inr (.inr x1)), some (.inr (.inr x2)), some (.inl x3)] [.inl 3, .inl x3, .inr (.inr x0), .inl i64, .inl i63, .inr (.inr x2), .inr (.inl j62)] u61.2 = _
                                    refine Eq.trans (e1 hG PT_181 k181_656 _ _ _) ?_
                                    show G 181 657 [some (.inr (.inr x0)), some (.inr (.inr x1)), some (.inr (.inr x2)), some (.inl x3)] [.inl (x3 + 3), .inr (.inr x0), .inl i64, .inl i63, .inr (.inr x2), .inr (.inl j62)] u61.2 = _
                                    refine Eq.trans (e1 hG PT_181 k181_657 _ _ _) ?_
                                    refine bdc fun i65 => ?_
                                    show G 181 658 [some (.inr (.inr x0)), some (.inr (.inr x1)), some (.inr (.inr x2)), some (.inl x3)] [.inl i65, .inl i64, .inl i63, .inr (.inr x2), .inr (.inl j62)] u61.2 = _
                                    refine Eq.trans (e1 hG PT_181 k181_658 _ _ _) ?_
                                    show G 181 659 [some (.inr (.inr x0)), some (.inr (.inr x1)), some (.inr (.inr x2)), some (.inl x3)] [.inr (.inr x0), .inl i65, .inl i64, .inl i63, .inr (.inr x2), .inr (.inl j62)] u61.2 = _
                                    refine Eq.trans (e1 hG PT_181 k181_659 _ _ _) ?_
                                    show G 181 660 [some (.inr (.inr x0)), some (.inr (.inr x1)), some (.inr (.inr x2)), some (.inl x3)] [.inl x3, .inr (.inr x0), .inl i65, .inl i64, .inl i63, .inr (.inr x2), .inr (.inl j62)] u61.2 = _
                                    refine Eq.trans (e1 hG PT_181 k181_660 _ _ _) ?_
                                    show G 181 661 [some (.inr (.inr x0)), some (.inr (.inr x1)), some (.inr (.inr x2)), some (.inl x3)] [.inl 4, .inl x3, .inr (.inr x0), .inl i65, .inl i64, .inl i63, .inr (.inr x2), .inr (.inl j62)] u61.2 = _
                                    refine Eq.trans (e1 hG PT_181 k181_661 _ _ _) ?_
                                    show G 181 662 [some (.inr (.inr x0)), some (.inr (.inr x1)), some (.inr (.inr x2)), some (.inl x3)] [.inl (x3 + 4), .inr (.inr x0), .inl i65, .inl i64, .inl i63, .inr (.inr x2), .inr (.inl j62)] u61.2 = _
                                    refine Eq.trans (e1 hG PT_181 k181_662 _ _ _) ?_
                                    refine bdc fun i66 => ?_
                                    show G 181 663 [some (.inr (.inr x0)), some (.inr (.inr x1)), some (.inr (.inr x2)), some (.inl x3)] [.inl i66, .inl i65, .inl i64, .inl i63, .inr (.inr x2), .inr (.inl j62)] u61.2 = _
                                    refine Eq.trans (e1 hG PT_181 k181_663 _ _ _) ?_
                                    refine bfc ?_ ?_
                                    · refine bdc fun u67 => ?_
                                      refine bdc fun j68 => ?_
                                      show G 181 666 [some (.inr (.inr x0)), some (.inr (.inr x1)), some (.inr (.inr x2)), some (.inl x3)] [.inr (.inl j68), .inr (.inl j62)] u67.2 = _
                                      refine Eq.trans (e1 hG PT_181 k181_666 _ _ _) ?_
                                      show G 181 667 [some (.inr (.inr x0)), some (.inr (.inr x1)), some (.inr (.inr x2)), some (.inl x3)] [.inl (lg_cmp j62 j68)] u67.2 = _
                                      refine Eq.trans (e1 hG PT_181 k181_667 _ _ _) ?_
                                      refine bfc ?_ ?_
                                      · rfl
                                      · show G 181 670 [some (.inr (.inr x0)), some (.inr (.inr x1)), some (.inr (.inr x2)), some (.inl x3)] [] u67.2 = _
                                        refine Eq.trans (e1 hG PT_181 k181_670 _ _ _) ?_
                                        show G 181 671 [some (.inr (.inr x0)), some (.inr (.inr x1)), some (.inr (.inr x2)), some (.inl x3)] [.inl 0] u67.2 = _
                                        exact e1 hG PT_181 k181_671 _ _ _
                                    · rfl
                                  · rfl
                                · refine bfc ?_ ?_
                                  · show G 181 672 [some (.inr (.inr x0)), some (.inr (.inr x1)), some (.inr (.inr x2)), some (.inl x3)] [] H = _
                                    refine Eq.trans (e1 hG PT_181 k181_672 _ _ _) ?_
                                    show G 181 673 [some (.inr (.inr x0)), some (.inr (.inr x1)), some (.inr (.inr x2)), some (.inl x3)] [.inr (.inr x1)] H = _
                                    refine Eq.trans (e1 hG PT_181 k181_673 _ _ _) ?_
                                    show G 181 674 [some (.inr (.inr x0)), some (.inr (.inr x1)), some (.inr (.inr x2)), some (.inl x3)] [.inr (.inr x0), .inr (.inr x1)] H = _
                                    refine Eq.trans (e1 hG PT_181 k181_674 _ _ _) ?_
                                    show G 181 675 [some (.inr (.inr x0)), some (.inr (.inr x1)), some (.inr (.inr x2)), some (.inl x3)] [.inl x3, .inr (.inr x0), .inr (.inr x1)] H = _
                                    refine Eq.trans (e1 hG PT_181 k181_675 _ _ _) ?_
                                    show G 181 676 [some (.inr (.inr x0)), some (.inr (.inr x1)), some (.inr (.inr x2)), some (.inl x3)] [.inl 1, .inl x3, .inr (.inr x0), .inr (.inr x1)] H = _
                                    refine Eq.trans (e1 hG PT_181 k181_676 _ _ _) ?_
                                    show G 181 677 [some (.inr (.inr x0)), some (.inr (.inr x1)), some (.inr (.inr x2)), some (.inl x3)] [.inl (x3 + 1), .inr (.inr x0), .inr (.inr x1)] H = _
                                    refine Eq.trans (e1 hG PT_181 k181_677 _ _ _) ?_
                                    refine bdc fun i45 => ?_
                                    show G 181 678 [some (.inr (.inr x0)), some (.inr (.inr x1)), some (.inr (.inr x2)), some (.inl x3)] [.inl i45, .inr (.inr x1)] H = _
                                    refine Eq.trans (e1 hG PT_181 k181_678 _ _ _) ?_
                                    show G 181 679 [some (.inr (.inr x0)), some (.inr (.inr x1)), some (.inr (.inr x2)), some (.inl x3)] [.inr (.inr x0), .inl i45, .inr (.inr x1)] H = _
                                    refine Eq.trans (e1 hG PT_181 k181_679 _ _ _) ?_
                                    show G 181 680 [some (.inr (.inr x0)), some (.inr (.inr x1)), some (.inr (.inr x2)), some (.inl x3)] [.inl x3, .inr (.inr x0), .inl i45, .inr (.inr x1)] H = _
                                    refine Eq.trans (e1 hG PT_181 k181_680 _ _ _) ?_
                                    show G 181 681 [some (.inr (.inr x0)), some (.inr (.inr x1)), some (.inr (.inr x2)), some (.inl x3)] [.inl 2, .inl x3, .inr (.inr x0), .inl i45, .inr (.inr x1)] H = _
                                    refine Eq.trans (e1 hG PT_181 k181_681 _ _ _) ?_
                                    show G 181 682 [some (.inr (.inr x0)), some (.inr (.inr x1)), some (.inr (.inr x2)), some (.inl x3)] [.inl (x3 + 2), .inr (.inr x0), .inl i45, .inr (.inr x1)] H = _
                                    refine Eq.trans (e1 hG PT_181 k181_682 _ _ _) ?_
                                    refine bdc fun i46 => ?_
                                    show G 181 683 [some (.inr (.inr x0)), some (.inr (.inr x1)), some (.inr (.inr x2)), some (.inl x3)] [.inl i46, .inl i45, .inr (.inr x1)] H = _
                                    refine Eq.trans (e1 hG PT_181 k181_683 _ _ _) ?_
                                    show G 181 684 [some (.inr (.inr x0)), some (.inr (.inr x1)), some (.inr (.inr x2)), some (.inl x3)] [.inr (.inr x0), .inl i46, .inl i45, .inr (.inr x1)] H = _
                                    refine Eq.trans (e1 hG PT_181 k181_684 _ _ _) ?_
                                    show G 181 685 [some (.inr (.inr x0)), some (.inr (.inr x1)), some (.inr (.inr x2)), some (.inl x3)] [.inl x3, .inr (.inr x0), .inl i46, .inl i45, .inr (.inr x1)] H = _
                                    refine Eq.trans (e1 hG PT_181 k181_685 _ _ _) ?_
                                    show G 181 686 [some (.inr (.inr x0)), some (.inr (.inr x1)), some (.inr (.inr x2)), some (.inl x3)] [.inl 3, .inl x3, .inr (.inr x0), .inl i46, .inl i45, .inr (.inr x1)] H = _
                                    refine Eq.trans (e1 hG PT_181 k181_686 _ _ _) ?_
                                    show G 181 687 [some (.inr (.inr x0)), some (.inr (.inr x1)), some (.inr (.inr x2)), some (.inl x3)] [.inl (x3 + 3), .inr (.inr x0), .inl i46, .inl i45, .inr (.inr x1)] H = _
                                    refine Eq.trans (e1 hG PT_181 k181_687 _ _ _) ?_
                                    refine bdc fun i47 => ?_
                                    show G 181 688 [some (.inr (.inr x0)), some (.inr (.inr x1)), some (.inr (.inr x2)), some (.inl x3)] [.inl i47, .inl i46, .inl i45, .inr (.inr x1)] H = _
                                    refine Eq.trans (e1 hG PT_181 k181_688 _ _ _) ?_
                                    show G 181 689 [some (.inr (.inr x0)), some (.inr (.inr x1)), some (.inr (.inr x2)), some (.inl x3)] [.inr (.inr x0), .inl i47, .inl i46, .inl i45, .inr (.inr x1)] H = _
                                    refine Eq.trans (e1 hG PT_181 k181_689 _ _ _) ?_
                                    show G 181 690 [some (.inr (.inr x0)), some (.inr (.inr x1)), some (.inr (.inr x2)), some (.inl x3)] [.inl x3, .inr (.inr x0), .inl i47, .inl i46, .inl i45, .inr (.inr x1)] H = _
                                    refine Eq.trans (e1 hG PT_181 k181_690 _ _ _) ?_
                                    show G 181 691 [some (.inr (.inr x0)), some (.inr (.inr x1)), some (.inr (.inr x2)), some (.inl x3)] [.inl 4, .inl x3, .inr (.inr x0), .inl i47, .inl i46, .inl i45, .inr (.inr x1)] H = _
                                    refine Eq.trans (e1 hG PT_181 k181_691 _ _ _) ?_
                                    show G 181 692 [some (.inr (.inr x0)), some (.inr (.inr x1)), some (.inr (.inr x2)), some (.inl x3)] [.inl (x3 + 4), .inr (.inr x0), .inl i47, .inl i46, .inl i45, .inr (.inr x1)] H = _
                                    refine Eq.trans (e1 hG PT_181 k181_692 _ _ _) ?_
                                    refine bdc fun i48 => ?_
                                    show G 181 693 [some (.inr (.inr x0)), some (.inr (.inr x1)), some (.inr (.inr x2)), some (.inl x3)] [.inl i48, .inl i47, .inl i46, .inl i45, .inr (.inr x1)] H = _
                                    refine Eq.trans (e1 hG PT_181 k181_693 _ _ _) ?_
                                    refine bfc ?_ ?_
                                    · refine bdc fun u49 => ?_
                                      refine bdc fun j50 => ?_
                                      show G 181 696 [some (.inr (.inr x0)), some (.inr (.inr x1)), some (.inr (.inr x2)), some (.inl x3)] [.inr (.inl j50)] u49.2 = _
                                      refine Eq.trans (e1 hG PT_181 k181_696 _ _ _) ?_
                                      show G 181 697 [some (.inr (.inr x0)), some (.inr (.inr x1)), some (.inr (.inr x2)), some (.inl x3)] [.inr (.inr x2), .inr (.inl j50)] u49.2 = _
                                      refine Eq.trans (e1 hG PT_181 k181_697 _ _ _) ?_
                                      show G 181 698 [some (.inr (.inr x0)), some (.inr (.inr x1)), some (.inr (.inr x2)), some (.inl x3)] [.inr (.inr x0), .inr (.inr x2), .inr (.inl j50)] u49.2 = _
                                      refine Eq.trans (e1 hG PT_181 k181_698 _ _ _) ?_
                                      show G 181 699 [some (.inr (.inr x0)), some (.inr (.inr x1)), some (.inr (.inr x2)), some (.inl x3)] [.inl x3, .inr (.inr x0), .inr (.inr x2), .inr (.inl j50)] u49.2 = _
                                      refine Eq.trans (e1 hG PT_181 k181_699 _ _ _) ?_
                                      show G 181 700 [some (.inr (.inr x0)), some (.inr (.inr x1)), some (.inr (.inr x2)), some (.inl x3)] [.inl 1, .inl x3, .inr (.inr x0), .inr (.inr x2), .inr (.inl j50)] u49.2 = _
                                      refine Eq.trans (e1 hG PT_181 k181_700 _ _ _) ?_
                                      show G 181 701 [some (.inr (.inr x0)), some (.inr (.inr x1)), some (.inr (.inr x2)), some (.inl x3)] [.inl (x3 + 1), .inr (.inr x0), .inr (.inr x2), .inr (.inl j50)] u49.2 = _
                                      refine Eq.trans (e1 hG PT_181 k181_701 _ _ _) ?_
                                      refine bdc fun i51 => ?_
                                      show G 181 702 [some (.inr (.inr x0)), some (.inr (.inr x1)), some (.inr (.inr x2)), some (.inl x3)] [.inl i51, .inr (.inr x2), .inr (.inl j50)] u49.2 = _
                                      refine Eq.trans (e1 hG PT_181 k181_702 _ _ _) ?_
                                      show G 181 703 [some (.inr (.inr x0)), some (.inr (.inr x1)), some (.inr (.inr x2)), some (.inl x3)] [.inr (.inr x0), .inl i51, .inr (.inr x2), .inr (.inl j50)] u49.2 = _
                                      refine Eq.trans (e1 hG PT_181 k181_703 _ _ _) ?_
                                      show G 181 704 [some (.inr (.inr x0)), some (.inr (.inr x1)), some (.inr (.inr x2)), some (.inl x3)] [.inl x3, .inr (.inr x0), .inl i51, .inr (.inr x2), .inr (.inl j50)] u49.2 = _
                                      refine Eq.trans (e1 hG PT_181 k181_704 _ _ _) ?_
                                      show G 181 705 [some (.inr (.inr x0)), some (.inr (.inr x1)), some (.inr (.inr x2)), some (.inl x3)] [.inl 2, .inl x3, .inr (.inr x0), .inl i51, .inr (.inr x2), .inr (.inl j50)] u49.2 = _
                                      refine Eq.trans (e1 hG PT_181 k181_705 _ _ _) ?_
                                      show G 181 706 [some (.inr (.inr x0)), some (.inr (.inr x1)), some (.inr (.inr x2)), some (.inl x3)] [.inl (x3 + 2), .inr (.inr x0), .inl i51, .inr (.inr x2), .inr (.inl j50)] u49.2 = _
                                      refine Eq.trans (e1 hG PT_181 k181_706 _ _ _) ?_
                                      refine bdc fun i52 => ?_
                                      show G 181 707 [some (.inr (.inr x0)), some (.inr (.inr x1)), some (.inr (.inr x2)), some (.inl x3)] [.inl i52, .inl i51, .inr (.inr x2), .inr (.inl j50)] u49.2 = _
                                      refine Eq.trans (e1 hG PT_181 k181_707 _ _ _) ?_
                                      show G 181 708 [some (.inr (.inr x0)), some (.inr (.inr x1)), some (.inr (.inr x2)), some (.inl x3)] [.inr (.inr x0), .inl i52, .inl i51, .inr (.inr x2), .inr (.inl j50)] u49.2 = _
                                      refine Eq.trans (e1 hG PT_181 k181_708 _ _ _) ?_
                                      show G 181 709 [some (.inr (.inr x0)), some (.inr (.inr x1)), some (.inr (.inr x2)), some (.inl x3)] [.inl x3, .inr (.inr x0), .inl i52, .inl i51, .inr (.inr x2), .inr (.inl j50)] u49.2 = _
                                      refine Eq.trans (e1 hG PT_181 k181_709 _ _ _) ?_
                                      show G 181 710 [some (.inr (.inr x0)), some (.inr (.inr x1)), some (.inr (.inr x2)), some (.inl x3)] [.inl 3, .inl x3, .inr (.inr x0), .inl i52, .inl i51, .inr (.inr x2), .inr (.inl j50)] u49.2 = _
                                      refine Eq.trans (e1 hG PT_181 k181_710 _ _ _) ?_
                                      show G 181 711 [some (.inr (.inr x0)), some (.inr (.inr x1)), some (.inr (.inr x2)), some (.inl x3)] [.inl (x3 + 3), .inr (.inr x0), .inl i52, .inl i51, .inr (.inr x2), .inr (.inl j50)] u49.2 = _
                                      refine Eq.trans (e1 hG PT_181 k181_711 _ _ _) ?_
                                      refine bdc fun i53 => ?_
                                      show G 181 712 [some (.inr (.inr x0)), some (.inr (.inr x1)), some (.inr (.inr x2)), some (.inl x3)] [.inl i53, .inl i52, .inl i51, .inr (.inr x2), .inr (.inl j50)] u49.2 = _
                                      refine Eq.trans (e1 hG PT_181 k181_712 _ _ _) ?_
                                      show G 181 713 [some (.inr (.inr x0)), some (.inr (.inr x1)), some (.inr (.inr x2)), some (.inl x3)] [.inr (.inr x0), .inl i53, .inl i52, .inl i51, .inr (.inr x2), .inr (.inl j50)] u49.2 = _
                                      refine Eq.trans (e1 hG PT_181 k181_713 _ _ _) ?_
                                      show G 181 714 [some (.inr (.inr x0)), some (.inr (.inr x1)), some (.inr (.inr x2)), some (.inl x3)] [.inl x3, .inr (.inr x0), .inl i53, .inl i52, .inl i51, .inr (.inr x2), .inr (.inl j50)] u49.2 = _
                                      refine Eq.trans (e1 hG PT_181 k181_714 _ _ _) ?_
                                      show G 181 715 [some (.inr (.inr x0)), some (.inr (.inr x1)), some (.inr (.inr x2)), some (.inl x3)] [.inl 4, .inl x3, .inr (.inr x0), .inl i53, .inl i52, .inl i51, .inr (.inr x2), .inr (.inl j50)] u49.2 = _
                                      refine Eq.trans (e1 hG PT_181 k181_715 _ _ _) ?_
                                      show G 181 716 [some (.inr (.inr x0)), some (.inr (.inr x1)), some (.inr (.inr x2)), some (.inl x3)] [.inl (x3 + 4), .inr (.inr x0), .inl i53, .inl i52, .inl i51, .inr (.inr x2), .inr (.inl j50)] u49.2 = _
                                      refine Eq.trans (e1 hG PT_181 k181_716 _ _ _) ?_
                                      refine bdc fun i54 => ?_
                                      show G 181 717 [some (.inr (.inr x0)), some (.inr (.inr x1)), some (.inr (.inr x2)), some (.inl x3)] [.inl i54, .inl i53, .inl i52, .inl i51, .inr (.inr x2), .inr (.inl j50)] u49.2 = _
                                      refine Eq.trans (e1 hG PT_181 k181_717 _ _ _) ?_
                                      refine bfc ?_ ?_
                                      · refine bdc fun u55 => ?_
                                        refine bdc fun j56 => ?_
                                        show G 181 720 [some (.inr (.inr x0)), some (.inr (.inr x1)), some (.inr (.inr x2)), some (.inl x3)] [.inr (.inl j56), .inr (.inl j50)] u55.2 = _
                                        refine Eq.trans (e1 hG PT_181 k181_720 _ _ _) ?_
                                        show G 181 721 [some (.inr (.inr x0)), some (.inr (.inr x1)), some (.inr (.inr x2)), some (.inl x3)] [.inl (lg_cmp j50 j56)] u55.2 = _
                                        refine Eq.trans (e1 hG PT_181 k181_721 _ _ _) ?_
                                        refine bfc ?_ ?_
                                        · rfl
                                        · show G 181 724 [some (.inr (.inr x0)), some (.inr (.inr x1)), some (.inr (.inr x2)), some (.inl x3)] [] u55.2 = _
                                          refine Eq.trans (e1 hG PT_181 k181_724 _ _ _) ?_
                                          show G 181 725 [some (.inr (.inr x0)), some (.inr (.inr x1)), some (.inr (.inr x2)), some (.inl x3)] [.inl 0] u55.2 = _
                                          exact e1 hG PT_181 k181_725 _ _ _
                                      · rfl
                                    · rfl
                                  · refine bfc ?_ ?_
                                    · show G 181 726 [some (.inr (.inr x0)), some (.inr (.inr x1)), some (.inr (.inr x2)), some (.inl x3)] [] H = _
                                      refine Eq.trans (e1 hG PT_181 k181_726 _ _ _) ?_
                                      show G 181 727 [some (.inr (.inr x0)), some (.inr (.inr x1)), some (.inr (.inr x2)), some (.inl x3)] [.inr (.inr x1)] H = _
                                      refine Eq.trans (e1 hG PT_181 k181_727 _ _ _) ?_
                                      show G 181 728 [some (.inr (.inr x0)), some (.inr (.inr x1)), some (.inr (.inr x2)), some (.inl x3)] [.inr (.inr x0), .inr (.inr x1)] H = _
                                      refine Eq.trans (e1 hG PT_181 k181_728 _ _ _) ?_
                                      show G 181 729 [some (.inr (.inr x0)), some (.inr (.inr x1)), some (.inr (.inr x2)), some (.inl x3)] [.inl x3, .inr (.inr x0), .inr (.inr x1)] H = _
                                      refine Eq.trans (e1 hG PT_181 k181_729 _ _ _) ?_
                                      show G 181 730 [some (.inr (.inr x0)), some (.inr (.inr x1)), some (.inr (.inr x2)), some (.inl x3)] [.inl 1, .inl x3, .inr (.inr x0), .inr (.inr x1)] H = _
                                      refine Eq.trans (e1 hG PT_181 k181_730 _ _ _) ?_
                                      show G 181 731 [some (.inr (.inr x0)), some (.inr (.inr x1)), some (.inr (.inr x2)), some (.inl x3)] [.inl (x3 + 1), .inr (.inr x0), .inr (.inr x1)] H = _
                                      refine Eq.trans (e1 hG PT_181 k181_731 _ _ _) ?_
                                      refine bdc fun i39 => ?_
                                      show G 181 732 [some (.inr (.inr x0)), some (.inr (.inr x1)), some (.inr (.inr x2)), some (.inl x3)] [.inl i39, .inr (.inr x1)] H = _
                                      refine Eq.trans (e1 hG PT_181 k181_732 _ _ _) ?_
                                      refine bfc ?_ ?_
                                      · refine bdc fun u40 => ?_
                                        refine bdc fun i41 => ?_
                                        show G 181 735 [some (.inr (.inr x0)), some (.inr (.inr x1)), some (.inr (.inr x2)), some (.inl x3)] [.inl i41] u40.2 = _
                                        refine Eq.trans (e1 hG PT_181 k181_735 _ _ _) ?_
                                        show G 181 736 [some (.inr (.inr x0)), some (.inr (.inr x1)), some (.inr (.inr x2)), some (.inl x3)] [.inr (.inr x2), .inl i41] u40.2 = _
                                        refine Eq.trans (e1 hG PT_181 k181_736 _ _ _) ?_
                                        show G 181 737 [some (.inr (.inr x0)), some (.inr (.inr x1)), some (.inr (.inr x2)), some (.inl x3)] [.inr (.inr x0), .inr (.inr x2), .inl i41] u40.2 = _
                                        refine Eq.trans (e1 hG PT_181 k181_737 _ _ _) ?_
                                        show G 181 738 [some (.inr (.inr x0)), some (.inr (.inr x1)), some (.inr (.inr x2)), some (.inl x3)] [.inl x3, .inr (.inr x0), .inr (.inr x2), .inl i41] u40.2 = _
                                        refine Eq.trans (e1 hG PT_181 k181_738 _ _ _) ?_
                                        show G 181 739 [some (.inr (.inr x0)), some (.inr (.inr x1)), some (.inr (.inr x2)), some (.inl x3)] [.inl 1, .inl x3, .inr (.inr x0), .inr (.inr x2), .inl i41] u40.2 = _
                                        refine Eq.trans (e1 hG PT_181 k181_739 _ _ _) ?_
                                        show G 181 740 [some (.inr (.inr x0)), some (.inr (.inr x1)), some (.inr (.inr x2)), some (.inl x3)] [.inl (x3 + 1), .inr (.inr x0), .inr (.inr x2), .inl i41] u40.2 = _
                                        refine Eq.trans (e1 hG PT_181 k181_740 _ _ _) ?_
                                        refine bdc fun i42 => ?_
                                        show G 181 741 [some (.inr (.inr x0)), some (.inr (.inr x1)), some (.inr (.inr x2)), some (.inl x3)] [.inl i42, .inr (.inr x2), .inl i41] u40.2 = _
                                        refine Eq.trans (e1 hG PT_181 k181_741 _ _ _) ?_
                                        refine bfc ?_ ?_
                                        · refine bdc fun u43 => ?_
                                          refine bdc fun i44 => ?_
                                          show G 181 744 [some (.inr (.inr x0)), some (.inr (.inr x1)), some (.inr (.inr x2)), some (.inl x3)] [.inl i44, .inl i41] u43.2 = _
                                          refine Eq.trans (e1 hG PT_181 k181_744 _ _ _) ?_
                                          refine bfc ?_ ?_
                                          · rfl
                                          · show G 181 747 [some (.inr (.inr x0)), some (.inr (.inr x1)), some (.inr (.inr x2)), some (.inl x3)] [] u43.2 = _
                                            refine Eq.trans (e1 hG PT_181 k181_747 _ _ _) ?_
                                            show G 181 748 [some (.inr (.inr x0)), some (.inr (.inr x1)), some (.inr (.inr x2)), some (.inl x3)] [.inl 0] u43.2 = _
                                            exact e1 hG PT_181 k181_748 _ _ _
                                        · rfl
                                      · rfl
                                    · refine bfc ?_ ?_
                                      · show G 181 749 [some (.inr (.inr x0)), some (.inr (.inr x1)), some (.inr (.inr x2)), some (.inl x3)] [] H = _
                                        refine Eq.trans (e1 hG PT_181 k181_749 _ _ _) ?_
                                        show G 181 750 [some (.inr (.inr x0)), some (.inr (.inr x1)), some (.inr (.inr x2)), some (.inl x3)] [.inr (.inr x1)] H = _
                                        refine Eq.trans (e1 hG PT_181 k181_750 _ _ _) ?_
                                        show G 181 751 [some (.inr (.inr x0)), some (.inr (.inr x1)), some (.inr (.inr x2)), some (.inl x3)] [.inr (.inr x0), .inr (.inr x1)] H = _
                                        refine Eq.trans (e1 hG PT_181 k181_751 _ _ _) ?_
                                        show G 181 752 [some (.inr (.inr x0)), some (.inr (.inr x1)), some (.inr (.inr x2)), some (.inl x3)] [.inl x3, .inr (.inr x0), .inr (.inr x1)] H = _
                                        refine Eq.trans (e1 hG PT_181 k181_752 _ _ _) ?_
                                        show G 181 753 [some (.inr (.inr x0)), some (.inr (.inr x1)), some (.inr (.inr x2)), some (.inl x3)] [.inl 1, .inl x3, .inr (.inr x0), .inr (.inr x1)] H = _
                                        refine Eq.trans (e1 hG PT_181 k181_753 _ _ _) ?_
                                        show G 181 754 [some (.inr (.inr x0)), some (.inr (.inr x1)), some (.inr (.inr x2)), some (.inl x3)] [.inl (x3 + 1), .inr (.inr x0), .inr (.inr x1)] H = _
                                        refine Eq.trans (e1 hG PT_181 k181_754 _ _ _) ?_
                                        refine bdc fun i27 => ?_
                                        show G 181 755 [some (.inr (.inr x0)), some (.inr (.inr x1)), some (.inr (.inr x2)), some (.inl x3)] [.inl i27, .inr (.inr x1)] H = _
                                        refine Eq.trans (e1 hG PT_181 k181_755 _ _ _) ?_
                                        show G 181 756 [some (.inr (.inr x0)), some (.inr (.inr x1)), some (.inr (.inr x2)), some (.inl x3)] [.inr (.inr x0), .inl i27, .inr (.inr x1)] H = _
                                        refine Eq.trans (e1 hG PT_181 k181_756 _ _ _) ?_
                                        show G 181 757 [some (.inr (.inr x0)), some (.inr (.inr x1)), some (.inr (.inr x2)), some (.inl x3)] [.inl x3, .inr (.inr x0), .inl i27, .inr (.inr x1)] H = _
                                        refine Eq.trans (e1 hG PT_181 k181_757 _ _ _) ?_
                                        show G 181 758 [some (.inr (.inr x0)), some (.inr (.inr x1)), some (.inr (.inr x2)), some (.inl x3)] [.inl 2, .inl x3, .inr (.inr x0), .inl i27, .inr (.inr x1)] H = _
                                        refine Eq.trans (e1 hG PT_181 k181_758 _ _ _) ?_
                                        show G 181 759 [some (.inr (.inr x0)), some (.inr (.inr x1)), some (.inr (.inr x2)), some (.inl x3)] [.inl (x3 + 2), .inr (.inr x0), .inl i27, .inr (.inr x1)] H = _
                                        refine Eq.trans (e1 hG PT_181 k181_759 _ _ _) ?_
                                        refine bdc fun i28 => ?_
                                        show G 181 760 [some (.inr (.inr x0)), some (.inr (.inr x1)), some (.inr (.inr x2)), some (.inl x3)] [.inl i28, .inl i27, .inr (.inr x1)] H = _
                                        refine Eq.trans (e1 hG PT_181 k181_760 _ _ _) ?_
                                        show G 181 761 [some (.inr (.inr x0)), some (.inr (.inr x1)), some (.inr (.inr x2)), some (.inl x3)] [.inr (.inr x0), .inl i28, .inl i27, .inr (.inr x1)] H = _
                                        refine Eq.trans (e1 hG PT_181 k181_761 _ _ _) ?_
                                        show G 181 762 [some (.inr (.inr x0)), some (.inr (.inr x1)), some (.inr (.inr x2)), some (.inl x3)] [.inl x3, .inr (.inr x0), .inl i28, .inl i27, .inr (.inr x1)] H = _
                                        refine Eq.trans (e1 hG PT_181 k181_762 _ _ _) ?_
                                        show G 181 763 [some (.inr (.inr x0)), some (.inr (.inr x1)), some (.inr (.inr x2)), some (.inl x3)] [.inl 3, .inl x3, .inr (.inr x0), .inl i28, .inl i27, .inr (.inr x1)] H = _
                                        refine Eq.trans (e1 hG PT_181 k181_763 _ _ _) ?_
                                        show G 181 764 [some (.inr (.inr x0)), some (.inr (.inr x1)), some (.inr (.inr x2)), some (.inl x3)] [.inl (x3 + 3), .inr (.inr x0), .inl i28, .inl i27, .inr (.inr x1)] H = _
                                        refine Eq.trans (e1 hG PT_181 k181_764 _ _ _) ?_
                                        refine bdc fun i29 => ?_
                                        show G 181 765 [some (.inr (.inr x0)), some (.inr (.inr x1)), some (.inr (.inr x2)), some (.inl x3)] [.inl i29, .inl i28, .inl i27, .inr (.inr x1)] H = _
                                        refine Eq.trans (e1 hG PT_181 k181_765 _ _ _) ?_
                                        show G 181 766 [some (.inr (.inr x0)), some (.inr (.inr x1)), some (.inr (.inr x2)), some (.inl x3)] [.inr (.inr x0), .inl i29, .inl i28, .inl i27, .inr (.inr x1)] H = _
                                        refine Eq.trans (e1 hG PT_181 k181_766 _ _ _) ?_
                                        show G 181 767 [some (.inr (.inr x0)), some (.inr (.inr x1)), some (.inr (.inr x2)), some (.inl x3)] [.inl x3, .inr (.inr x0), .inl i29, .inl i28, .inl i27, .inr (.inr x1)] H = _
                                        refine Eq.trans (e1 hG PT_181 k181_767 _ _ _) ?_
                                        show G 181 768 [some (.inr (.inr x0)), some (.inr (.inr x1)), some (.inr (.inr x2)), some (.inl x3)] [.inl 4, .inl x3, .inr (.inr x0), .inl i29, .inl i28, .inl i27, .inr (.inr x1)] H = _
                                        refine Eq.trans (e1 hG PT_181 k181_768 _ _ _) ?_
                                        show G 181 769 [some (.inr (.inr x0)), some (.inr (.inr x1)), some (.inr (.inr x2)), some (.inl x3)] [.inl (x3 + 4), .inr (.inr x0), .inl i29, .inl i28, .inl i27, .inr (.inr x1)] H = _
                                        refine Eq.trans (e1 hG PT_181 k181_769 _ _ _) ?_
                                        refine bdc fun i30 => ?_
                                        show G 181 770 [some (.inr (.inr x0)), some (.inr (.inr x1)), some (.inr (.inr x2)), some (.inl x3)] [.inl i30, .inl i29, .inl i28, .inl i27, .inr (.inr x1)] H = _
                                        refine Eq.trans (e1 hG PT_181 k181_770 _ _ _) ?_
                                        refine bfc ?_ ?_
                                        · refine bdc fun u31 => ?_
                                          refine bdc fun i32 => ?_
                                          show G 181 773 [some (.inr (.inr x0)), some (.inr (.inr x1)), some (.inr (.inr x2)), some (.inl x3)] [.inl i32] u31.2 = _
                                          refine Eq.trans (e1 hG PT_181 k181_773 _ _ _) ?_
                                          show G 181 774 [some (.inr (.inr x0)), some (.inr (.inr x1)), some (.inr (.inr x2)), some (.inl x3)] [.inr (.inr x2), .inl i32] u31.2 = _
                                          refine Eq.trans (e1 hG PT_181 k181_774 _ _ _) ?_
                                          show G 181 775 [some (.inr (.inr x0)), some (.inr (.inr x1)), some (.inr (.inr x2)), some (.inl x3)] [.inr (.inr x0), .inr (.inr x2), .inl i32] u31.2 = _
                                          refine Eq.trans (e1 hG PT_181 k181_775 _ _ _) ?_
                                          show G 181 776 [some (.inr (.inr x0)), some (.inr (.inr x1)), some (.inr (.inr x2)), some (.inl x3)] [.inl x3, .inr (.inr x0), .inr (.inr x2), .inl i32] u31.2 = _
                                          refine Eq.trans (e1 hG PT_181 k181_776 _ _ _) ?_
                                          show G 181 777 [some (.inr (.inr x0)), some (.inr (.inr x1)), some (.inr (.inr x2)), some (.inl x3)] [.inl 1, .inl x3, .inr (.inr x0), .inr (.inr x2), .inl i32] u31.2 = _
                                          refine Eq.trans (e1 hG PT_181 k181_777 _ _ _) ?_
                                          show G 181 778 [some (.inr (.inr x0)), some (.inr (.inr x1)), some (.inr (.inr x2)), some (.inl x3)] [.inl (x3 + 1), .inr (.inr x0), .inr (.inr x2), .inl i32] u31.2 = _
                                          refine Eq.trans (e1 hG PT_181 k181_778 _ _ _) ?_
                                          refine bdc fun i33 => ?_
                                          show G 181 779 [some (.inr (.inr x0)), some (.inr (.inr x1)), some (.inr (.inr x2)), some (.inl x3)] [.inl i33, .inr (.inr x2), .inl i32] u31.2 = _
                                          refine Eq.trans (e1 hG PT_181 k181_779 _ _ _) ?_
                                          show G 181 780 [some (.inr (.inr x0)), some (.inr (.inr x1)), some (.inr (.inr x2)), some (.inl x3)] [.inr (.inr x0), .inl i33, .inr (.inr x2), .inl i32] u31.2 = _
                                          refine Eq.trans (e1 hG PT_181 k181_780 _ _ _) ?_
                                          show G 181 781 [some (.inr (.inr x0)), some (.inr (.inr x1)), some (.inr (.inr x2)), some (.inl x3)] [.inl x3, .inr (.inr x0), .inl i33, .inr (.inr x2), .inl i32] u31.2 = _
                                          refine Eq.trans (e1 hG PT_181 k181_781 _ _ _) ?_
                                          show G 181 782 [some (.inr (.inr x0)), some (.inr (.inr x1)), some (.inr (.inr x2)), some (.inl x3)] [.inl 2, .inl x3, .inr (.inr x0), .inl i33, .inr (.inr x2), .inl i32] u31.2 = _
                                          refine Eq.trans (e1 hG PT_181 k181_782 _ _ _) ?_
                                          show G 181 783 [some (.inr (.inr x0)), some (.inr (.inr x1)), some (.inr (.inr x2)), some (.inl x3)] [.inl (x3 + 2), .inr (.inr x0), .inl i33, .inr (.inr x2), .inl i32] u31.2 = _
                                          refine Eq.trans (e1 hG PT_181 k181_783 _ _ _) ?_
                                          refine bdc fun i34 => ?_
                                          show G 181 784 [some (.inr (.inr x0)), some (.inr (.inr x1)), some (.inr (.inr x2)), some (.inl x3)] [.inl i34, .inl i33, .inr (.inr x2), .inl i32] u31.2 = _
                                          refine Eq.trans (e1 hG PT_181 k181_784 _ _ _) ?_
                                          show G 181 785 [some (.inr (.inr x0)), some (.inr (.inr x1)), some (.inr (.inr x2)), some (.inl x3)] [.inr (.inr x0), .inl i34, .inl i33, .inr (.inr x2), .inl i32] u31.2 = _
                                          refine Eq.trans (e1 hG PT_181 k181_785 _ _ _) ?_
                                          show G 181 786 [some (.inr (.inr x0)), some (.inr (.inr x1)), some (.inr (.inr x2)), some (.inl x3)] [.inl x3, .inr (.inr x0), .inl i34, .inl i33, .inr (.inr x2), .inl i32] u31.2 = _
                                          refine Eq.trans (e1 hG PT_181 k181_786 _ _ _) ?_
                                          show G 181 787 [some (.inr (.inr x0)), some (.inr (.inr x1)), some (.inr (.inr x2)), some (.inl x3)] [.inl 3, .inl x3, .inr (.inr x0), .inl i34, .inl i33, .inr (.inr x2), .inl i32] u31.2 = _
                                          refine Eq.trans (e1 hG PT_181 k181_787 _ _ _) ?_
                                          show G 181 788 [some (.inr (.inr x0)), some (.inr (.inr x1)), some (.inr (.inr x2)), some (.inl x3)] [.inl (x3 + 3), .inr (.inr x0), .inl i34, .inl i33, .inr (.inr x2), .inl i32] u31.2 = _
                                          refine Eq.trans (e1 hG PT_181 k181_788 _ _ _) ?_
                                          refine bdc fun i35 => ?_
                                          show G 181 789 [some (.inr (.inr x0)), some (.inr (.inr x1)), some (.inr (.inr x2)), some (.inl x3)] [.inl i35, .inl i34, .inl i33, .inr (.inr x2), .inl i32] u31.2 = _
                                          refine Eq.trans (e1 hG PT_181 k181_789 _ _ _) ?_
                                          show G 181 790 [some (.inr (.inr x0)), some (.inr (.inr x1)), some (.inr (.inr x2)), some (.inl x3)] [.inr (.inr x0), .inl i35, .inl i34, .inl i33, .inr (.inr x2), .inl i32] u31.2 = _
                                          refine Eq.trans (e1 hG PT_181 k181_790 _ _ _) ?_
                                          show G 181 791 [some (.inr (.inr x0)), some (.inr (.inr x1)), some (.inr (.inr x2)), some (.inl x3)] [.inl x3, .inr (.inr x0), .inl i35, .inl i34, .inl i33, .inr (.inr x2), .inl i32] u31.2 = _
                                          refine Eq.trans (e1 hG PT_181 k181_791 _ _ _) ?_
                                          show G 181 792 [some (.inr (.inr x0)), some (.inr (.inr x1)), some (.inr (.inr x2)), some (.inl x3)] [.inl 4, .inl x3, .inr (.inr x0), .inl i35, .inl i34, .inl i33, .inr (.inr x2), .inl i32] u31.2 = _
                                          refine Eq.trans (e1 hG PT_181 k181_792 _ _ _) ?_
                                          show G 181 793 [some (.inr (.inr x0)), some (.inr (.inr x1)), some (.inr (.inr x2)), some (.inl x3)] [.inl (x3 + 4), .inr (.inr x0), .inl i35, .inl i34, .inl i33, .inr (.inr x2), .inl i32] u31.2 = _
                                          refine Eq.trans (e1 hG PT_181 k181_793 _ _ _) ?_
                                          refine bdc fun i36 => ?_
                                          show G 181 794 [some (.inr (.inr x0)), some (.inr (.inr x1)), some (.inr (.inr x2)), some (.inl x3)] [.inl i36, .inl i35, .inl i34, .inl i33, .inr (.inr x2), .inl i32] u31.2 = _
                                          refine Eq.trans (e1 hG PT_181 k181_794 _ _ _) ?_
                                          refine bfc ?_ ?_
                                          · refine bdc fun u37 => ?_
                                            refine bdc fun i38 => ?_
                                            show G 181 797 [some (.inr (.inr x0)), some (.inr (.inr x1)), some (.inr (.inr x2)), some (.inl x3)] [.inl i38, .inl i32] u37.2 = _
                                            refine Eq.trans (e1 hG PT_181 k181_797 _ _ _) ?_
                                            refine bfc ?_ ?_
                                            · rfl
                                            · show G 181 800 [some (.inr (.inr x0)), some (.inr (.inr x1)), some (.inr (.inr x2)), some (.inl x3)] [] u37.2 = _
                                              refine Eq.trans (e1 hG PT_181 k181_800 _ _ _) ?_
                                              show G 181 801 [some (.inr (.inr x0)), some (.inr (.inr x1)), some (.inr (.inr x2)), some (.inl x3)] [.inl 0] u37.2 = _
                                              exact e1 hG PT_181 k181_801 _ _ _
                                          · rfl
                                        · rfl
                                      · refine bfc ?_ ?_
                                        · show G 181 802 [some (.inr (.inr x0)), some (.inr (.inr x1)), some (.inr (.inr x2)), some (.inl x3)] [] H = _
                                          refine Eq.trans (e1 hG PT_181 k181_802 _ _ _) ?_
                                          show G 181 803 [some (.inr (.inr x0)), some (.inr (.inr x1)), some (.inr (.inr x2)), some (.inl x3)] [.inr (.inr x1)] H = _
                                          refine Eq.trans (e1 hG PT_181 k181_803 _ _ _) ?_
                                          show G 181 804 [some (.inr (.inr x0)), some (.inr (.inr x1)), some (.inr (.inr x2)), some (.inl x3)] [.inr (.inr x0), .inr (.inr x1)] H = _
                                          refine Eq.trans (e1 hG PT_181 k181_804 _ _ _) ?_
                                          show G 181 805 [some (.inr (.inr x0)), some (.inr (.inr x1)), some (.inr (.inr x2)), some (.inl x3)] [.inl x3, .inr (.inr x0), .inr (.inr x1)] H = _
                                          refine Eq.trans (e1 hG PT_181 k181_805 _ _ _) ?_
                                          show G 181 806 [some (.inr (.inr x0)), some (.inr (.inr x1)), some (.inr (.inr x2)), some (.inl x3)] [.inl 1, .inl x3, .inr (.inr x0), .inr (.inr x1)] H = _
                                          refine Eq.trans (e1 hG PT_181 k181_806 _ _ _) ?_
                                          show G 181 807 [some (.inr (.inr x0)), some (.inr (.inr x1)), some (.inr (.inr x2)), some (.inl x3)] [.inl (x3 + 1), .inr (.inr x0), .inr (.inr x1)] H = _
                                          refine Eq.trans (e1 hG PT_181 k181_807 _ _ _) ?_
                                          refine bdc fun i21 => ?_
                                          show G 181 808 [some (.inr (.inr x0)), some (.inr (.inr x1)), some (.inr (.inr x2)), some (.inl x3)] [.inl i21, .inr (.inr x1)] H = _
                                          refine Eq.trans (e1 hG PT_181 k181_808 _ _ _) ?_
                                          refine bfc ?_ ?_
                                          · refine bdc fun u22 => ?_
                                            refine bdc fun i23 => ?_
                                            show G 181 811 [some (.inr (.inr x0)), some (.inr (.inr x1)), some (.inr (.inr x2)), some (.inl x3)] [.inl i23] u22.2 = _
                                            refine Eq.trans (e1 hG PT_181 k181_811 _ _ _) ?_
                                            show G 181 812 [some (.inr (.inr x0)), some (.inr (.inr x1)), some (.inr (.inr x2)), some (.inl x3)] [.inr (.inr x2), .inl i23] u22.2 = _
                                            refine Eq.trans (e1 hG PT_181 k181_812 _ _ _) ?_
                                            show G 181 813 [some (.inr (.inr x0)), some (.inr (.inr x1)), some (.inr (.inr x2)), some (.inl x3)] [.inr (.inr x0), .inr (.inr x2), .inl i23] u22.2 = _
                                            refine Eq.trans (e1 hG PT_181 k181_813 _ _ _) ?_
                                            show G 181 814 [some (.inr (.inr x0)), some (.inr (.inr x1)), some (.inr (.inr x2)), some (.inl x3)] [.inl x3, .inr (.inr x0), .inr (.inr x2), .inl i23] u22.2 = _
                                            refine Eq.trans (e1 hG PT_181 k181_814 _ _ _) ?_
                                            show G 181 815 [some (.inr (.inr x0)), some (.inr (.inr x1)), some (.inr (.inr x2)), some (.inl x3)] [.inl 1, .inl x3, .inr (.inr x0), .inr (.inr x2), .inl i23] u22.2 = _
                                            refine Eq.trans (e1 hG PT_181 k181_815 _ _ _) ?_
                                            show G 181 816 [some (.inr (.inr x0)), some (.inr (.inr x1)), some (.inr (.inr x2)), some (.inl x3)] [.inl (x3 + 1), .inr (.inr x0), .inr (.inr x2), .inl i23] u22.2 = _
                                            refine Eq.trans (e1 hG PT_181 k181_816 _ _ _) ?_
                                            refine bdc fun i24 => ?_
                                            show G 181 817 [some (.inr (.inr x0)), some (.inr (.inr x1)), some (.inr (.inr x2)), some (.inl x3)] [.inl i24, .inr (.inr x2), .inl i23] u22.2 = _
                                            refine Eq.trans (e1 hG PT_181 k181_817 _ _ _) ?_
                                            refine bfc ?_ ?_
                                            · refine bdc fun u25 => ?_
                                              refine bdc fun i26 => ?_
                                              show G 181 820 [some (.inr (.inr x0)), some (.inr (.inr x1)), some (.inr (.inr x2)), some (.inl x3)] [.inl i26, .inl i23] u25.2 = _
                                              refine Eq.trans (e1 hG PT_181 k181_820 _ _ _) ?_
                                              refine bfc ?_ ?_
                                              · rfl
                                              · show G 181 823 [some (.inr (.inr x0)), some (.inr (.inr x1)), some (.inr (.inr x2)), some (.inl x3)] [] u25.2 = _
                                                refine Eq.trans (e1 hG PT_181 k181_823 _ _ _) ?_
                                                show G 181 824 [some (.inr (.inr x0)), some (.inr (.inr x1)), some (.inr (.inr x2)), some (.inl x3)] [.inl 0] u25.2 = _
                                                exact e1 hG PT_181 k181_824 _ _ _
                                            · rfl
                                          · rfl
                                        · refine bfc ?_ ?_
                                          · show G 181 825 [some (.inr (.inr x0)), some (.inr (.inr x1)), some (.inr (.inr x2)), some (.inl x3)] [] H = _
                                            refine Eq.trans (e1 hG PT_181 k181_825 _ _ _) ?_
                                            show G 181 826 [some (.inr (.inr x0)), some (.inr (.inr x1)), some (.inr (.inr x2)), some (.inl x3)] [.inr (.inr x1)] H = _
                                            refine Eq.trans (e1 hG PT_181 k181_826 _ _ _) ?_
                                            show G 181 827 [some (.inr (.inr x0)), some (.inr (.inr x1)), some (.inr (.inr x2)), some (.inl x3)] [.inr (.inr x0), .inr (.inr x1)] H = _
                                            refine Eq.trans (e1 hG PT_181 k181_827 _ _ _) ?_
                                            show G 181 828 [some (.inr (.inr x0)), some (.inr (.inr x1)), some (.inr (.inr x2)), some (.inl x3)] [.inl x3, .inr (.inr x0), .inr (.inr x1)] H = _
                                            refine Eq.trans (e1 hG PT_181 k181_828 _ _ _) ?_
                                            show G 181 829 [some (.inr (.inr x0)), some (.inr (.inr x1)), some (.inr (.inr x2)), some (.inl x3)] [.inl 1, .inl x3, .inr (.inr x0), .inr (.inr x1)] H = _
                                            refine Eq.trans (e1 hG PT_181 k181_829 _ _ _) ?_
                                            show G 181 830 [some (.inr (.inr x0)), some (.inr (.inr x1)), some (.inr (.inr x2)), some (.inl x3)] [.inl (x3 + 1), .inr (.inr x0), .inr (.inr x1)] H = _
                                            refine Eq.trans (e1 hG PT_181 k181_830 _ _ _) ?_
                                            refine bdc fun i9 => ?_
                                            show G 181 831 [some (.inr (.inr x0)), some (.inr (.inr x1)), some (.inr (.inr x2)), some (.inl x3)] [.inl i9, .inr (.inr x1)] H = _
                                            refine Eq.trans (e1 hG PT_181 k181_831 _ _ _) ?_
                                            show G 181 832 [some (.inr (.inr x0)), some (.inr (.inr x1)), some (.inr (.inr x2)), some (.inl x3)] [.inr (.inr x0), .inl i9, .inr (.inr x1)] H = _
                                            refine Eq.trans (e1 hG PT_181 k181_832 _ _ _) ?_
                                            show G 181 833 [some (.inr (.inr x0)), some (.inr (.inr x1)), some (.inr (.inr x2)), some (.inl x3)] [.inl x3, .inr (.inr x0), .inl i9, .inr (.inr x1)] H = _
                                            refine Eq.trans (e1 hG PT_181 k181_833 _ _ _) ?_
                                            show G 181 834 [some (.inr (.inr x0)), some (.inr (.inr x1)), some (.inr (.inr x2)), some (.inl x3)] [.inl 2, .inl x3, .inr (.inr x0), .inl i9, .inr (.inr x1)] H = _
                                            refine Eq.trans (e1 hG PT_181 k181_834 _ _ _) ?_
                                            show G 181 835 [some (.inr (.inr x0)), some (.inr (.inr x1)), some (.inr (.inr x2)), some (.inl x3)] [.inl (x3 + 2), .inr (.inr x0), .inl i9, .inr (.inr x1)] H = _
                                            refine Eq.trans (e1 hG PT_181 k181_835 _ _ _) ?_
                                            refine bdc fun i10 => ?_
                                            show G 181 836 [some (.inr (.inr x0)), some (.inr (.inr x1)), some (.inr (.inr x2)), some (.inl x3)] [.inl i10, .inl i9, .inr (.inr x1)] H = _
                                            refine Eq.trans (e1 hG PT_181 k181_836 _ _ _) ?_
                                            show G 181 837 [some (.inr (.inr x0)), some (.inr (.inr x1)), some (.inr (.inr x2)), some (.inl x3)] [.inr (.inr x0), .inl i10, .inl i9, .inr (.inr x1)] H = _
                                            refine Eq.trans (e1 hG PT_181 k181_837 _ _ _) ?_
                                            show G 181 838 [some (.inr (.inr x0)), some (.inr (.inr x1)), some (.inr (.inr x2)), some (.inl x3)] [.inl x3, .inr (.inr x0), .inl i10, .inl i9, .inr (.inr x1)] H = _
                                            refine Eq.trans (e1 hG PT_181 k181_838 _ _ _) ?_
                                            show G 181 839 [some (.inr (.inr x0)), some (.inr (.inr x1)), some (.inr (.inr x2)), some (.inl x3)] [.inl 3, .inl x3, .inr (.inr x0), .inl i10, .inl i9, .inr (.inr x1)] H = _
                                            refine Eq.trans (e1 hG PT_181 k181_839 _ _ _) ?_
                                            show G 181 840 [some (.inr (.inr x0)), some (.inr (.inr x1)), some (.inr (.inr x2)), some (.inl x3)] [.inl (x3 + 3), .inr (.inr x0), .inl i10, .inl i9, .inr (.inr x1)] H = _
                                            refine Eq.trans (e1 hG PT_181 k181_840 _ _ _) ?_
                                            refine bdc fun i11 => ?_
                                            show G 181 841 [some (.inr (.inr x0)), some (.inr (.inr x1)), some (.inr (.inr x2)), some (.inl x3)] [.inl i11, .inl i10, .inl i9, .inr (.inr x1)] H = _
                                            refine Eq.trans (e1 hG PT_181 k181_841 _ _ _) ?_
                                            show G 181 842 [some (.inr (.inr x0)), some (.inr (.inr x1)), some (.inr (.inr x2)), some (.inl x3)] [.inr (.inr x0), .inl i11, .inl i10, .inl i9, .inr (.inr x1)] H = _
                                            refine Eq.trans (e1 hG PT_181 k181_842 _ _ _) ?_
                                            show G 181 843 [some (.inr (.inr x0)), some (.inr (.inr x1)), some (.inr (.inr x2)), some (.inl x3)] [.inl x3, .inr (.inr x0), .inl i11, .inl i10, .inl i9, .inr (.inr x1)] H = _
                                            refine Eq.trans (e1 hG PT_181 k181_843 _ _ _) ?_
                                            show G 181 844 [some (.inr (.inr x0)), some (.inr (.inr x1)), some (.inr (.inr x2)), some (.inl x3)] [.inl 4, .inl x3, .inr (.inr x0), .inl i11, .inl i10, .inl i9, .inr (.inr x1)] H = _
                                            refine Eq.trans (e1 hG PT_181 k181_844 _ _ _) ?_
                                            show G 181 845 [some (.inr (.inr x0)), some (.inr (.inr x1)), some (.inr (.inr x2)), some (.inl x3)] [.inl (x3 + 4), .inr (.inr x0), .inl i11, .inl i10, .inl i9, .inr (.inr x1)] H = _
                                            refine Eq.trans (e1 hG PT_181 k181_845 _ _ _) ?_
                                            refine bdc fun i12 => ?_
                                            show G 181 846 [some (.inr (.inr x0)), some (.inr (.inr x1)), some (.inr (.inr x2)), some (.inl x3)] [.inl i12, .inl i11, .inl i10, .inl i9, .inr (.inr x1)] H = _
                                            refine Eq.trans (e1 hG PT_181 k181_846 _ _ _) ?_
                                            refine bfc ?_ ?_
                                            · refine bdc fun u13 => ?_
                                              refine bdc fun i14 => ?_
                                              show G 181 849 [some (.inr (.inr x0)), some (.inr (.inr x1)), some (.inr (.inr x2)), some (.inl x3)] [.inl i14] u13.2 = _
                                              refine Eq.trans (e1 hG PT_181 k181_849 _ _ _) ?_
                                              show G 181 850 [some (.inr (.inr x0)), some (.inr (.inr x1)), some (.inr (.inr x2)), some (.inl x3)] [.inr (.inr x2), .inl i14] u13.2 = _
                                              refine Eq.trans (e1 hG PT_181 k181_850 _ _ _) ?_
                                              show G 181 851 [some (.inr (.inr x0)), some (.inr (.inr x1)), some (.inr (.inr x2)), some (.inl x3)] [.inr (.inr x0), .inr (.inr x2), .inl i14] u13.2 = _
                                              refine Eq.trans (e1 hG PT_181 k181_851 _ _ _) ?_
                                              show G 181 852 [some (.inr (.inr x0)), some (.inr (.inr x1)), some (.inr (.inr x2)), some (.inl x3)] [.inl x3, .inr (.inr x0), .inr (.inr x2), .inl i14] u13.2 = _
                                              refine Eq.trans (e1 hG PT_181 k181_852 _ _ _) ?_
                                              show G 181 853 [some (.inr (.inr x0)), some (.inr (.inr x1)), some (.inr (.inr x2)), some (.inl x3)] [.inl 1, .inl x3, .inr (.inr x0), .inr (.inr x2), .inl i14] u13.2 = _
                                              refine Eq.trans (e1 hG PT_181 k181_853 _ _ _) ?_
                                              show G 181 854 [some (.inr (.inr x0)), some (.inr (.inr x1)), some (.inr (.inr x2)), some (.inl x3)] [.inl (x3 + 1), .inr (.inr x0), .inr (.inr x2), .inl i14] u13.2 = _
                                              refine Eq.trans (e1 hG PT_181 k181_854 _ _ _) ?_
                                              refine bdc fun i15 => ?_
                                              show G 181 855 [some (.inr (.inr x0)), some (.inr (.inr x1)), some (.inr (.inr x2)), some (.inl x3)] [.inl i15, .inr (.inr x2), .inl i14] u13.2 = _
                                              refine Eq.trans (e1 hG PT_181 k181_855 _ _ _) ?_
                                              show G 181 856 [some (.inr (.inr x0)), some (.inr (.inr x1)), some (.inr (.inr x2)), some (.inl x3)] [.inr (.inr x0), .inl i15, .inr (.inr x2), .inl i14] u13.2 = _
                                              refine Eq.trans (e1 hG PT_181 k181_856 _ _ _) ?_
                                              show G 181 857 [some (.inr (.inr x0)), some (.inr (.inr x1)), some (.inr (.inr x2)), some (.inl x3)] [.inl x3, .inr (.inr x0), .inl i15, .inr (.inr x2), .inl i14] u13.2 = _
                                              refine Eq.trans (e1 hG PT_181 k181_857 _ _ _) ?_
                                              show G 181 858 [some (.inr (.inr x0)), some (.inr (.inr x1)), some (.inr (.inr x2)), some (.inl x3)] [.inl 2, .inl x3, .inr (.inr x0), .inl i15, .inr (.inr x2), .inl i14] u13.2 = _
                                              refine Eq.trans (e1 hG PT_181 k181_858 _ _ _) ?_
                                              show G 181 859 [some (.inr (.inr x0)), some (.inr (.inr x1)), some (.inr (.inr x2)), some (.inl x3)] [.inl (x3 + 2), .inr (.inr x0), .inl i15, .inr (.inr x2), .inl i14] u13.2 = _
                                              refine Eq.trans (e1 hG PT_181 k181_859 _ _ _) ?_
                                              refine bdc fun i16 => ?_
                                              show G 181 860 [some (.inr (.inr x0)), some (.inr (.inr x1)), some (.inr (.inr x2)), some (.inl x3)] [.inl i16, .inl i15, .inr (.inr x2), .inl i14] u13.2 = _
                                              refine Eq.trans (e1 hG PT_181 k181_860 _ _ _) ?_
                                              show G 181 861 [some (.inr (.inr x0)), some (.inr (.inr x1)), some (.inr (.inr x2)), some (.inl x3)] [.inr (.inr x0), .inl i16, .inl i15, .inr (.inr x2), .inl i14] u13.2 = _
                                              refine Eq.trans (e1 hG PT_181 k181_861 _ _ _) ?_
                                              show G 181 862 [some (.inr (.inr x0)), some (.inr (.inr x1)), some (.inr (.inr x2)), some (.inl x3)] [.inl x3, .inr (.inr x0), .inl i16, .inl i15, .inr (.inr x2), .inl i14] u13.2 = _
                                              refine Eq.trans (e1 hG PT_181 k181_862 _ _ _) ?_
                                              show G 181 863 [some (.inr (.inr x0)), some (.inr (.inr x1)), some (.inr (.inr x2)), some (.inl x3)] [.inl 3, .inl x3, .inr (.inr x0), .inl i16, .inl i15, .inr (.inr x2), .inl i14] u13.2 = _
                                              refine Eq.trans (e1 hG PT_181 k181_863 _ _ _) ?_
                                              show G 181 864 [some (.inr (.inr x0)), some (.inr (.inr x1)), some (.inr (.inr x2)), some (.inl x3)] [.inl (x3 + 3), .inr (.inr x0), .inl i16, .inl i15, .inr (.inr x2), .inl i14] u13.2 = _
                                              refine Eq.trans (e1 hG PT_181 k181_864 _ _ _) ?_
                                              refine bdc fun i17 => ?_
                                              show G 181 865 [some (.inr (.inr x0)), some (.inr (.inr x1)), some (.inr (.inr x2)), some (.inl x3)] [.inl i17, .inl i16, .inl i15, .inr (.inr x2), .inl i14] u13.2 = _
                                              refine Eq.trans (e1 hG PT_181 k181_865 _ _ _) ?_
                                              show G 181 866 [some (.inr (.inr x0)), some (.inr (.inr x1)), some (.inr (.inr x2)), some (.inl x3)] [.inr (.inr x0), .inl i17, .inl i16, .inl i15, .inr (.inr x2), .inl i14] u13.2 = _
                                              refine Eq.trans (e1 hG PT_181 k181_866 _ _ _) ?_
                                              show G 181 867 [some (.inr (.inr x0)), some (.inr (.inr x1)), some (.inr (.inr x2)), some (.inl x3)] [.inl x3, .inr (.inr x0), .inl i17, .inl i16, .inl i15, .inr (.inr x2), .inl i14] u13.2 = _
                                              refine Eq.trans (e1 hG PT_181 k181_867 _ _ _) ?_
                                              show G 181 868 [some (.inr (.inr x0)), some (.inr (.inr x1)), some (.inr (.inr x2)), some (.inl x3)] [.inl 4, .inl x3, .inr (.inr x0), .inl i17, .inl i16, .inl i15, .inr (.inr x2), .inl i14] u13.2 = _
                                              refine Eq.trans (e1 hG PT_181 k181_868 _ _ _) ?_
                                              show G 181 869 [some (.inr (.inr x0)), some (.inr (.inr x1)), some (.inr (.inr x2)), some (.inl x3)] [.inl (x3 + 4), .inr (.inr x0), .inl i17, .inl i16, .inl i15, .inr (.inr x2), .inl i14] u13.2 = _
                                              refine Eq.trans (e1 hG PT_181 k181_869 _ _ _) ?_
                                              refine bdc fun i18 => ?_
                                              show G 181 870 [some (.inr (.inr x0)), some (.inr (.inr x1)), some (.inr (.inr x2)), some (.inl x3)] [.inl i18, .inl i17, .inl i16, .inl i15, .inr (.inr x2), .inl i14] u13.2 = _
                                              refine Eq.trans (e1 hG PT_181 k181_870 _ _ _) ?_
                                              refine bfc ?_ ?_
                                              · refine bdc fun u19 => ?_
                                                refine bdc fun i20 => ?_
                                                show G 181 873 [some (.inr (.inr x0)), some (.inr (.inr x1)), some (.inr (.inr x2)), some (.inl x3)] [.inl i20, .inl i14] u19.2 = _
                                                refine Eq.trans (e1 hG PT_181 k181_873 _ _ _) ?_
                                                refine bfc ?_ ?_
                                                · rfl
                                                · show G 181 876 [some (.inr (.inr x0)), some (.inr (.inr x1)), some (.inr (.inr x2)), some (.inl x3)] [] u19.2 = _
                                                  refine Eq.trans (e1 hG PT_181 k181_876 _ _ _) ?_
                                                  show G 181 877 [some (.inr (.inr x0)), some (.inr (.inr x1)), some (.inr (.inr x2)), some (.inl x3)] [.inl 0] u19.2 = _
                                                  exact e1 hG PT_181 k181_877 _ _ _
                                              · rfl
                                            · rfl
                                          · refine bfc ?_ ?_
                                            · show G 181 878 [some (.inr (.inr x0)), some (.inr (.inr x1)), some (.inr (.inr x2)), some (.inl x3)] [] H = _
                                              refine Eq.trans (e1 hG PT_181 k181_878 _ _ _) ?_
                                              show G 181 879 [some (.inr (.inr x0)), some (.inr (.inr x1)), some (.inr (.inr x2)), some (.inl x3)] [.inr (.inr x1)] H = _
                                              refine Eq.trans (e1 hG PT_181 k181_879 _ _ _) ?_
                                              show G 181 880 [some (.inr (.inr x0)), some (.inr (.inr x1)), some (.inr (.inr x2)), some (.inl x3)] [.inr (.inr x0), .inr (.inr x1)] H = _
                                              refine Eq.trans (e1 hG PT_181 k181_880 _ _ _) ?_
                                              show G 181 881 [some (.inr (.inr x0)), some (.inr (.inr x1)), some (.inr (.inr x2)), some (.inl x3)] [.inl x3, .inr (.inr x0), .inr (.inr x1)] H = _
                                              refine Eq.trans (e1 hG PT_181 k181_881 _ _ _) ?_
                                              show G 181 882 [some (.inr (.inr x0)), some (.inr (.inr x1)), some (.inr (.inr x2)), some (.inl x3)] [.inl 1, .inl x3, .inr (.inr x0), .inr (.inr x1)] H = _
                                              refine Eq.trans (e1 hG PT_181 k181_882 _ _ _) ?_
                                              show G 181 883 [some (.inr (.inr x0)), some (.inr (.inr x1)), some (.inr (.inr x2)), some (.inl x3)] [.inl (x3 + 1), .inr (.inr x0), .inr (.inr x1)] H = _
                                              refine Eq.trans (e1 hG PT_181 k181_883 _ _ _) ?_
                                              refine bdc fun i3 => ?_
                                              show G 181 884 [some (.inr (.inr x0)), some (.inr (.inr x1)), some (.inr (.inr x2)), some (.inl x3)] [.inl i3, .inr (.inr x1)] H = _
                                              refine Eq.trans (e1 hG PT_181 k181_884 _ _ _) ?_
                                              refine bfc ?_ ?_
                                              · refine bdc fun u4 => ?_
                                                refine bdc fun i5 => ?_
                                                show G 181 887 [some (.inr (.inr x0)), some (.inr (.inr x1)), some (.inr (.inr x2)), some (.inl x3)] [.inl i5] u4.2 = _
                                                refine Eq.trans (e1 hG PT_181 k181_887 _ _ _) ?_
                                                show G 181 888 [some (.inr (.inr x0)), some (.inr (.inr x1)), some (.inr (.inr x2)), some (.inl x3)] [.inr (.inr x2), .inl i5] u4.2 = _
                                                refine Eq.trans (e1 hG PT_181 k181_888 _ _ _) ?_
                                                show G 181 889 [some (.inr (.inr x0)), some (.inr (.inr x1)), some (.inr (.inr x2)), some (.inl x3)] [.inr (.inr x0), .inr (.inr x2), .inl i5] u4.2 = _
                                                refine Eq.trans (e1 hG PT_181 k181_889 _ _ _) ?_
                                                show G 181 890 [some (.inr (.inr x0)), some (.inr (.inr x1)), some (.inr (.inr x2)), some (.inl x3)] [.inl x3, .inr (.inr x0), .inr (.inr x2), .inl i5] u4.2 = _
                                                refine Eq.trans (e1 hG PT_181 k181_890 _ _ _) ?_
                                                show G 181 891 [some (.inr (.inr x0)), some (.inr (.inr x1)), some (.inr (.inr x2)), some (.inl x3)] [.inl 1, .inl x3, .inr (.inr x0), .inr (.inr x2), .inl i5] u4.2 = _
                                                refine Eq.trans (e1 hG PT_181 k181_891 _ _ _) ?_
                                                show G 181 892 [some (.inr (.inr x0)), some (.inr (.inr x1)), some (.inr (.inr x2)), some (.inl x3)] [.inl (x3 + 1), .inr (.inr x0), .inr (.inr x2), .inl i5] u4.2 = _
                                                refine Eq.trans (e1 hG PT_181 k181_892 _ _ _) ?_
                                                refine bdc fun i6 => ?_
                                                show G 181 893 [some (.inr (.inr x0)), some (.inr (.inr x1)), some (.inr (.inr x2)), some (.inl x3)] [.inl i6, .inr (.inr x2), .inl i5] u4.2 = _
                                                refine Eq.trans (e1 hG PT_181 k181_893 _ _ _) ?_
                                                refine bfc ?_ ?_
                                                · refine bdc fun u7 => ?_
                                                  refine bdc fun i8 => ?_
                                                  show G 181 896 [some (.inr (.inr x0)), some (.inr (.inr x1)), some (.inr (.inr x2)), some (.inl x3)] [.inl i8, .inl i5] u7.2 = _
                                                  refine Eq.trans (e1 hG PT_181 k181_896 _ _ _) ?_
                                                  refine bfc ?_ ?_
                                                  · rfl
                                                  · show G 181 899 [some (.inr (.inr x0)), some (.inr (.inr x1)), some (.inr (.inr x2)), some (.inl x3)] [] u7.2 = _
                                                    refine Eq.trans (e1 hG PT_181 k181_899 _ _ _) ?_
                                                    show G 181 900 [some (.inr (.inr x0)), some (.inr (.inr x1)), some (.inr (.inr x2)), some (.inl x3)] [.inl 0] u7.2 = _
                                                    exact e1 hG PT_181 k181_900 _ _ _
                                                · rfl
                                              · rfl
                                            · rfl
set_option maxRecDepth 100000 in
theorem b181_901 {G : AG} (hG : FIX G) (x0 : Nat) (x1 : Nat) (x2 : Nat) (x3 : Int32) (H : Hp) : G 181 901 [some (.inr (.inr x0)), some (.inr (.inr x1)), some (.inr (.inr x2)), some (.inl x3)] [] H = (G 181 18 [some (.inr (.inr x0)), some (.inr (.inr x1)), some (.inr (.inr x2)), some (.inl (x3 + 8))] [] H) := by
  refine Eq.trans (e1 hG PT_181 k181_901 _ _ _) ?_
  show G 181 904 [some (.inr (.inr x0)), some (.inr (.inr x1)), some (.inr (.inr x2)), some (.inl (x3 + 8))] [] H = _
  refine Eq.trans (e1 hG PT_181 k181_904 _ _ _) ?_
  rfl
