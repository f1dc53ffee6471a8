-- StepsAhead$Reckoner.powersOfFormula([J)I
theorem PT_76 : PT 76 = pt76 := rfl
theorem k76_0 : lkp pt76 0 = iP 1 (fK (.inl 0)) := rfl
theorem k76_1 : lkp pt76 1 = iP 2 (fIst 1) := rfl
theorem k76_2 : lkp pt76 2 = iP 3 (fK (.inl 0)) := rfl
theorem k76_3 : lkp pt76 3 = iP 4 (fIst 2) := rfl
theorem k76_4 : lkp pt76 4 = iP 5 (fIld 2) := rfl
theorem k76_5 : lkp pt76 5 = iP 7 (fK (.inl 36)) := rfl
theorem k76_7 : lkp pt76 7 = iB 10 38 (b2 (fun x y => decide (y ≤ x))) := rfl
theorem k76_10 : lkp pt76 10 = iP 11 (fAld 0) := rfl
theorem k76_11 : lkp pt76 11 = iP 12 (fIld 2) := rfl
theorem k76_12 : lkp pt76 12 = iRJ 13 qAJ := rfl
theorem k76_13 : lkp pt76 13 = iP 14 (fK (.inr (.inl 0))) := rfl
theorem k76_14 : lkp pt76 14 = iP 15 fLcmp := rfl
theorem k76_15 : lkp pt76 15 = iB 18 32 (b1 (fun x => decide (x = 0))) := rfl
theorem k76_18 : lkp pt76 18 = iP 19 (fIld 1) := rfl
theorem k76_19 : lkp pt76 19 = iP 20 (fIld 2) := rfl
theorem k76_20 : lkp pt76 20 = iP 22 (fK (.inl 6)) := rfl
theorem k76_22 : lkp pt76 22 = iRI 23 (q2I (fun x y => x / y)) := rfl
theorem k76_23 : lkp pt76 23 = iP 24 (fIld 2) := rfl
theorem k76_24 : lkp pt76 24 = iP 26 (fK (.inl 6)) := rfl
theorem k76_26 : lkp pt76 26 = iRI 27 (q2I (fun x y => x - x / y * y)) := rfl
theorem k76_27 : lkp pt76 27 = iP 28 (f2I (fun x y => x + y)) := rfl
theorem k76_28 : lkp pt76 28 = iP 31 (fM2 (fun x y => if x < y then y else x)) := rfl
theorem k76_31 : lkp pt76 31 = iP 32 (fIst 1) := rfl
theorem k76_32 : lkp pt76 32 = iP 35 (fInc 2 1) := rfl
theorem k76_35 : lkp pt76 35 = iP 4 fGo := rfl
theorem k76_38 : lkp pt76 38 = iP 39 (fIld 1) := rfl
theorem k76_39 : lkp pt76 39 = iP 40 (fK (.inl 5)) := rfl
theorem k76_40 : lkp pt76 40 = iP 43 (fM2 (fun x y => if y < x then y else x)) := rfl
theorem k76_43 : lkp pt76 43 = iRet rI := rfl
theorem b76_0 {G : AG} (hG : FIX G) (x0 : Nat) (H : Hp) : G 76 0 [some (.inr (.inr x0)), none, none] [] H = (G 76 4 [some (.inr (.inr x0)), some (.inl 0), some (.inl 0)] [] H) := by
  refine Eq.trans (e1 hG PT_76 k76_0 _ _ _) ?_
  show G 76 1 [some (.inr (.inr x0)), none, none] [.inl 0] H = _
  refine Eq.trans (e1 hG PT_76 k76_1 _ _ _) ?_
  show G 76 2 [some (.inr (.inr x0)), some (.inl 0), none] [] H = _
  refine Eq.trans (e1 hG PT_76 k76_2 _ _ _) ?_
  show G 76 3 [some (.inr (.inr x0)), some (.inl 0), none] [.inl 0] H = _
  refine Eq.trans (e1 hG PT_76 k76_3 _ _ _) ?_
  rfl
theorem b76_4 {G : AG} (hG : FIX G) (x0 : Nat) (x1 : Int32) (x2 : Int32) (H : Hp) : G 76 4 [some (.inr (.inr x0)), some (.inl x1), some (.inl x2)] [] H = (bif decide ((36 : Int32) ≤ (x2 : Int32)) then some (some (.inl ((if 5 < x1 then 5 else x1))), H) else (hAJ H x0 x2).bind fun j1 => bif decide (((lg_cmp j1 0) : Int32) = 0) then G 76 32 [some (.inr (.inr x0)), some (.inl x1), some (.inl x2)] [] H else ((if (6 : Int32) = 0 then none else some (x2 / 6))).bind fun i2 => ((if (6 : Int32) = 0 then none else some (x2 - x2 / 6 * 6))).bind fun i3 => G 76 32 [some (.inr (.inr x0)), some (.inl (if x1 < (i2 + i3) then (i2 + i3) else x1)), some (.inl x2)] [] H) := by
  refine Eq.trans (e1 hG PT_76 k76_4 _ _ _) ?_
  show G 76 5 [some (.inr (.inr x0)), some (.inl x1), some (.inl x2)] [.inl x2] H = _
  refine Eq.trans (e1 hG PT_76 k76_5 _ _ _) ?_
  show G 76 7 [some (.inr (.inr x0)), some (.inl x1), some (.inl x2)] [.inl 36, .inl x2] H = _
  refine Eq.trans (e1 hG PT_76 k76_7 _ _ _) ?_
  refine bfc ?_ ?_
  · show G 76 38 [some (.inr (.inr x0)), some (.inl x1), some (.inl x2)] [] H = _
    refine Eq.trans (e1 hG PT_76 k76_38 _ _ _) ?_
    show G 76 39 [some (.inr (.inr x0)), some (.inl x1), some (.inl x2)] [.inl x1] H = _
    refine Eq.trans (e1 hG PT_76 k76_39 _ _ _) ?_
    show G 76 40 [some (.inr (.inr x0)), some (.inl x1), some (.inl x2)] [.inl 5, .inl x1] H = _
    refine Eq.trans (e1 hG PT_76 k76_40 _ _ _) ?_
    show G 76 43 [some (.inr (.inr x0)), some (.inl x1), some (.inl x2)] [.inl (if 5 < x1 then 5 else x1)] H = _
    exact e1 hG PT_76 k76_43 _ _ _
  · show G 76 10 [some (.inr (.inr x0)), some (.inl x1), some (.inl x2)] [] H = _
    refine Eq.trans (e1 hG PT_76 k76_10 _ _ _) ?_
    show G 76 11 [some (.inr (.inr x0)), some (.inl x1), some (.inl x2)] [.inr (.inr x0)] H = _
    refine Eq.trans (e1 hG PT_76 k76_11 _ _ _) ?_
    show G 76 12 [some (.inr (.inr x0)), some (.inl x1), some (.inl x2)] [.inl x2, .inr (.inr x0)] H = _
    refine Eq.trans (e1 hG PT_76 k76_12 _ _ _) ?_
    refine bdc fun j1 => ?_
    show G 76 13 [some (.inr (.inr x0)), some (.inl x1), some (.inl x2)] [.inr (.inl j1)] H = _
    refine Eq.trans (e1 hG PT_76 k76_13 _ _ _) ?_
    show G 76 14 [some (.inr (.inr x0)), some (.inl x1), some (.inl x2)] [.inr (.inl 0), .inr (.inl j1)] H = _
    refine Eq.trans (e1 hG PT_76 k76_14 _ _ _) ?_
    show G 76 15 [some (.inr (.inr x0)), some (.inl x1), some (.inl x2)] [.inl (lg_cmp j1 0)] H = _
    refine Eq.trans (e1 hG PT_76 k76_15 _ _ _) ?_
    refine bfc ?_ ?_
    · rfl
    · show G 76 18 [some (.inr (.inr x0)), some (.inl x1), some (.inl x2)] [] H = _
      refine Eq.trans (e1 hG PT_76 k76_18 _ _ _) ?_
      show G 76 19 [some (.inr (.inr x0)), some (.inl x1), some (.inl x2)] [.inl x1] H = _
      refine Eq.trans (e1 hG PT_76 k76_19 _ _ _) ?_
      show G 76 20 [some (.inr (.inr x0)), some (.inl x1), some (.inl x2)] [.inl x2, .inl x1] H = _
      refine Eq.trans (e1 hG PT_76 k76_20 _ _ _) ?_
      show G 76 22 [some (.inr (.inr x0)), some (.inl x1), some (.inl x2)] [.inl 6, .inl x2, .inl x1] H = _
      refine Eq.trans (e1 hG PT_76 k76_22 _ _ _) ?_
      show ((if (6 : Int32) = 0 then none else some (x2 / 6))).bind (fun i2 => G 76 23 [some (.inr (.inr x0)), some (.inl x1), some (.inl x2)] [.inl i2, .inl x1] H) = _
      refine bdc (q := (if (6 : Int32) = 0 then none else some (x2 / 6))) fun i2 => ?_
      show G 76 23 [some (.inr (.inr x0)), some (.inl x1), some (.inl x2)] [.inl i2, .inl x1] H = _
      refine Eq.trans (e1 hG PT_76 k76_23 _ _ _) ?_
      show G 76 24 [some (.inr (.inr x0)), some (.inl x1), some (.inl x2)] [.inl x2, .inl i2, .inl x1] H = _
      refine Eq.trans (e1 hG PT_76 k76_24 _ _ _) ?_
      show G 76 26 [some (.inr (.inr x0)), some (.inl x1), some (.inl x2)] [.inl 6, .inl x2, .inl i2, .inl x1] H = _
      refine Eq.trans (e1 hG PT_76 k76_26 _ _ _) ?_
      show ((if (6 : Int32) = 0 then none else some (x2 - x2 / 6 * 6))).bind (fun i3 => G 76 27 [some (.inr (.inr x0)), some (.inl x1), some (.inl x2)] [.inl i3, .inl i2, .inl x1] H) = _
      refine bdc (q := (if (6 : Int32) = 0 then none else some (x2 - x2 / 6 * 6))) fun i3 => ?_
      show G 76 27 [some (.inr (.inr x0)), some (.inl x1), some (.inl x2)] [.inl i3, .inl i2, .inl x1] H = _
      refine Eq.trans (e1 hG PT_76 k76_27 _ _ _) ?_
      show G 76 28 [some (.inr (.inr x0)), some (.inl x1), some (.inl x2)] [.inl (i2 + i3), .inl x1] H = _
      refine Eq.trans (e1 hG PT_76 k76_28 _ _ _) ?_
      show G 76 31 [some (.inr (.inr x0)), some (.inl x1), some (.inl x2)] [.inl (if x1 < (i2 + i3) then (i2 + i3) else x1)] H = _
      refine Eq.trans (e1 hG PT_76 k76_31 _ _ _) ?_
      rfl
theorem b76_32 {G : AG} (hG : FIX G) (x0 : Nat) (x1 : Int32) (x2 : Int32) (H : Hp) : G 76 32 [some (.inr (.inr x0)), some (.inl x1), some (.inl x2)] [] H = (G 76 4 [some (.inr (.inr x0)), some (.inl x1), some (.inl (x2 + 1))] [] H) := by
  refine Eq.trans (e1 hG PT_76 k76_32 _ _ _) ?_
  show G 76 35 [some (.inr (.inr x0)), some (.inl x1), some (.inl (x2 + 1))] [] H = _
  refine Eq.trans (e1 hG PT_76 k76_35 _ _ _) ?_
  rfl
-- StepsAhead$Products.upTo(I)I
theorem PT_79 : PT 79 = pt79 := rfl
theorem k79_0 : lkp pt79 0 = iP 1 (fIld 0) := rfl
theorem k79_1 : lkp pt79 1 = iB 4 6 (b1 (fun x => decide (0 ≤ x))) := rfl
theorem k79_4 : lkp pt79 4 = iP 5 (fK (.inl 0)) := rfl
theorem k79_5 : lkp pt79 5 = iRet rI := rfl
theorem k79_6 : lkp pt79 6 = iP 7 (fIld 0) := rfl
theorem k79_7 : lkp pt79 7 = iP 8 (fK (.inl 5)) := rfl
theorem k79_8 : lkp pt79 8 = iB 11 19 (b2 (fun x y => decide (y ≤ x))) := rfl
theorem k79_11 : lkp pt79 11 = iP 14 (fK (.inr (.inr 2))) := rfl
theorem k79_14 : lkp pt79 14 = iP 15 (fIld 0) := rfl
theorem k79_15 : lkp pt79 15 = iRI 16 qAI := rfl
theorem k79_16 : lkp pt79 16 = iP 22 fGo := rfl
theorem k79_19 : lkp pt79 19 = iP 22 (fK (.inl 252)) := rfl
theorem k79_22 : lkp pt79 22 = iRet rI := rfl
theorem b79_0 {G : AG} (hG : FIX G) (x0 : Int32) (H : Hp) : G 79 0 [some (.inl x0)] [] H = (bif decide (0 ≤ (x0 : Int32)) then bif decide ((5 : Int32) ≤ (x0 : Int32)) then G 79 22 [some (.inl x0)] [.inl 252] H else (hAI H 2 x0).bind fun i1 => G 79 22 [some (.inl x0)] [.inl i1] H else some (some (.inl 0), H)) := by
  refine Eq.trans (e1 hG PT_79 k79_0 _ _ _) ?_
  show G 79 1 [some (.inl x0)] [.inl x0] H = _
  refine Eq.trans (e1 hG PT_79 k79_1 _ _ _) ?_
  refine bfc ?_ ?_
  · show G 79 6 [some (.inl x0)] [] H = _
    refine Eq.trans (e1 hG PT_79 k79_6 _ _ _) ?_
    show G 79 7 [some (.inl x0)] [.inl x0] H = _
    refine Eq.trans (e1 hG PT_79 k79_7 _ _ _) ?_
    show G 79 8 [some (.inl x0)] [.inl 5, .inl x0] H = _
    refine Eq.trans (e1 hG PT_79 k79_8 _ _ _) ?_
    refine bfc ?_ ?_
    · show G 79 19 [some (.inl x0)] [] H = _
      refine Eq.trans (e1 hG PT_79 k79_19 _ _ _) ?_
      rfl
    · show G 79 11 [some (.inl x0)] [] H = _
      refine Eq.trans (e1 hG PT_79 k79_11 _ _ _) ?_
      show G 79 14 [some (.inl x0)] [.inr (.inr 2)] H = _
      refine Eq.trans (e1 hG PT_79 k79_14 _ _ _) ?_
      show G 79 15 [some (.inl x0)] [.inl x0, .inr (.inr 2)] H = _
      refine Eq.trans (e1 hG PT_79 k79_15 _ _ _) ?_
      refine bdc fun i1 => ?_
      show G 79 16 [some (.inl x0)] [.inl i1] H = _
      refine Eq.trans (e1 hG PT_79 k79_16 _ _ _) ?_
      rfl
  · show G 79 4 [some (.inl x0)] [] H = _
    refine Eq.trans (e1 hG PT_79 k79_4 _ _ _) ?_
    show G 79 5 [some (.inl x0)] [.inl 0] H = _
    exact e1 hG PT_79 k79_5 _ _ _
theorem b79_22 {G : AG} (hG : FIX G) (x0 : Int32) (s0 : Int32) (H : Hp) : G 79 22 [some (.inl x0)] [.inl s0] H = (some (some (.inl s0), H)) := by
  exact e1 hG PT_79 k79_22 _ _ _
-- StepsAhead$Products.multiply([JI[II)V
theorem PT_80 : PT 80 = pt80 := rfl
theorem k80_0 : lkp pt80 0 = iP 1 (fK (.inl 2)) := rfl
theorem k80_1 : lkp pt80 1 = iP 3 (fIld 4) := rfl
theorem k80_3 : lkp pt80 3 = iP 4 (f2I (fun x y => x + y)) := rfl
theorem k80_4 : lkp pt80 4 = iP 6 (fIst 5) := rfl
theorem k80_6 : lkp pt80 6 = iP 7 (fIld 2) := rfl
theorem k80_7 : lkp pt80 7 = iP 10 (fK (.inl 252)) := rfl
theorem k80_10 : lkp pt80 10 = iP 13 (fM2 (fun x y => if y < x then y else x)) := rfl
theorem k80_13 : lkp pt80 13 = iP 14 (fK (.inl 1)) := rfl
theorem k80_14 : lkp pt80 14 = iP 15 (f2I (fun x y => x - y)) := rfl
theorem k80_15 : lkp pt80 15 = iP 17 (fIst 6) := rfl
theorem k80_17 : lkp pt80 17 = iP 19 (fIld 6) := rfl
theorem k80_19 : lkp pt80 19 = iB 22 109 (b1 (fun x => decide (x < 0))) := rfl
theorem k80_22 : lkp pt80 22 = iP 23 (fAld 1) := rfl
theorem k80_23 : lkp pt80 23 = iP 25 (fIld 6) := rfl
theorem k80_25 : lkp pt80 25 = iRJ 26 qAJ := rfl
theorem k80_26 : lkp pt80 26 = iP 28 (fLst 7) := rfl
theorem k80_28 : lkp pt80 28 = iP 30 (fJld 7) := rfl
theorem k80_30 : lkp pt80 30 = iP 31 (fK (.inr (.inl 0))) := rfl
theorem k80_31 : lkp pt80 31 = iP 32 fLcmp := rfl
theorem k80_32 : lkp pt80 32 = iB 35 103 (b1 (fun x => decide (x = 0))) := rfl
theorem k80_35 : lkp pt80 35 = iP 36 (fAld 1) := rfl
theorem k80_36 : lkp pt80 36 = iP 38 (fIld 6) := rfl
theorem k80_38 : lkp pt80 38 = iP 40 (fJld 7) := rfl
theorem k80_40 : lkp pt80 40 = iP 41 (fAld 3) := rfl
theorem k80_41 : lkp pt80 41 = iP 42 (fK (.inl 0)) := rfl
theorem k80_42 : lkp pt80 42 = iRI 43 qAI := rfl
theorem k80_43 : lkp pt80 43 = iP 44 fI2l := rfl
theorem k80_44 : lkp pt80 44 = iP 45 (f2J (fun x y => x * y)) := rfl
theorem k80_45 : lkp pt80 45 = iW 46 wAJ := rfl
theorem k80_46 : lkp pt80 46 = iP 47 (fK (.inl 0)) := rfl
theorem k80_47 : lkp pt80 47 = iP 49 (fIst 9) := rfl
theorem k80_49 : lkp pt80 49 = iP 51 (fIld 9) := rfl
theorem k80_51 : lkp pt80 51 = iP 53 (fIld 5) := rfl
theorem k80_53 : lkp pt80 53 = iB 56 103 (b2 (fun x y => decide (y ≤ x))) := rfl
theorem k80_56 : lkp pt80 56 = iP 58 (fIld 9) := rfl
theorem k80_58 : lkp pt80 58 = iP 59 (fK (.inl 5)) := rfl
theorem k80_59 : lkp pt80 59 = iB 62 103 (b2 (fun x y => decide (y ≤ x))) := rfl
theorem k80_62 : lkp pt80 62 = iP 63 (fAld 0) := rfl
theorem k80_63 : lkp pt80 63 = iRR 66 (gtR 12) := rfl
theorem k80_66 : lkp pt80 66 = iP 68 (fIld 9) := rfl
theorem k80_68 : lkp pt80 68 = iRR 69 qAR := rfl
theorem k80_69 : lkp pt80 69 = iP 71 (fIld 6) := rfl
theorem k80_71 : lkp pt80 71 = iRI 72 qAI := rfl
theorem k80_72 : lkp pt80 72 = iP 74 (fIst 10) := rfl
theorem k80_74 : lkp pt80 74 = iP 76 (fIld 10) := rfl
theorem k80_76 : lkp pt80 76 = iP 77 (fK (.inl (-1))) := rfl
theorem k80_77 : lkp pt80 77 = iB 80 97 (b2 (fun x y => decide (x = y))) := rfl
theorem k80_80 : lkp pt80 80 = iP 81 (fAld 1) := rfl
theorem k80_81 : lkp pt80 81 = iP 83 (fIld 10) := rfl
theorem k80_83 : lkp pt80 83 = iP 84 fDup2 := rfl
theorem k80_84 : lkp pt80 84 = iRJ 85 qAJ := rfl
theorem k80_85 : lkp pt80 85 = iP 87 (fJld 7) := rfl
theorem k80_87 : lkp pt80 87 = iP 88 (fAld 3) := rfl
theorem k80_88 : lkp pt80 88 = iP 89 (fK (.inl 1)) := rfl
theorem k80_89 : lkp pt80 89 = iP 91 (fIld 9) := rfl
theorem k80_91 : lkp pt80 91 = iP 92 (f2I (fun x y => x + y)) := rfl
theorem k80_92 : lkp pt80 92 = iRI 93 qAI := rfl
theorem k80_93 : lkp pt80 93 = iP 94 fI2l := rfl
theorem k80_94 : lkp pt80 94 = iP 95 (f2J (fun x y => x * y)) := rfl
theorem k80_95 : lkp pt80 95 = iP 96 (f2J (fun x y => x + y)) := rfl
theorem k80_96 : lkp pt80 96 = iW 97 wAJ := rfl
theorem k80_97 : lkp pt80 97 = iP 100 (fInc 9 1) := rfl
theorem k80_100 : lkp pt80 100 = iP 49 fGo := rfl
theorem k80_103 : lkp pt80 103 = iP 106 (fInc 6 (-1)) := rfl
theorem k80_106 : lkp pt80 106 = iP 17 fGo := rfl
theorem k80_109 : lkp pt80 109 = iRet rV := rfl
theorem b80_0 {G : AG} (hG : FIX G) (x0 : Nat) (x1 : Nat) (x2 : Int32) (x3 : Nat) (x4 : Int32) (H : Hp) : G 80 0 [some (.inr (.inr x0)), some (.inr (.inr x1)), some (.inl x2), some (.inr (.inr x3)), some (.inl x4), none, none, none, none, none, none] [] H = (G 80 17 [some (.inr (.inr x0)), some (.inr (.inr x1)), some (.inl x2), some (.inr (.inr x3)), some (.inl x4), some (.inl (2 + x4)), some (.inl ((if 252 < x2 then 252 else x2) - 1)), none, none, none, none] [] H) := by
  refine Eq.trans (e1 hG PT_80 k80_0 _ _ _) ?_
  show G 80 1 [some (.inr (.inr x0)), some (.inr (.inr x1)), some (.inl x2), some (.inr (.inr x3)), some (.inl x4), none, none, none, none, none, none] [.inl 2] H = _
  refine Eq.trans (e1 hG PT_80 k80_1 _ _ _) ?_
  show G 80 3 [some (.inr (.inr x0)), some (.inr (.inr x1)), some (.inl x2), some (.inr (.inr x3)), some (.inl x4), none, none, none, none, none, none] [.inl x4, .inl 2] H = _
  refine Eq.trans (e1 hG PT_80 k80_3 _ _ _) ?_
  show G 80 4 [some (.inr (.inr x0)), some (.inr (.inr x1)), some (.inl x2), some (.inr (.inr x3)), some (.inl x4), none, none, none, none, none, none] [.inl (2 + x4)] H = _
  refine Eq.trans (e1 hG PT_80 k80_4 _ _ _) ?_
  show G 80 6 [some (.inr (.inr x0)), some (.inr (.inr x1)), some (.inl x2), some (.inr (.inr x3)), some (.inl x4), some (.inl (2 + x4)), none, none, none, none, none] [] H = _
  refine Eq.trans (e1 hG PT_80 k80_6 _ _ _) ?_
  show G 80 7 [some (.inr (.inr x0)), some (.inr (.inr x1)), some (.inl x2), some (.inr (.inr x3)), some (.inl x4), some (.inl (2 + x4)), none, none, none, none, none] [.inl x2] H = _
  refine Eq.trans (e1 hG PT_80 k80_7 _ _ _) ?_
  show G 80 10 [some (.inr (.inr x0)), some (.inr (.inr x1)), some (.inl x2), some (.inr (.inr x3)), some (.inl x4), some (.inl (2 + x4)), none, none, none, none, none] [.inl 252, .inl x2] H = _
  refine Eq.trans (e1 hG PT_80 k80_10 _ _ _) ?_
  show G 80 13 [some (.inr (.inr x0)), some (.inr (.inr x1)), some (.inl x2), some (.inr (.inr x3)), some (.inl x4), some (.inl (2 + x4)), none, none, none, none, none] [.inl (if 252 < x2 then 252 else x2)] H = _
  refine Eq.trans (e1 hG PT_80 k80_13 _ _ _) ?_
  show G 80 14 [some (.inr (.inr x0)), some (.inr (.inr x1)), some (.inl x2), some (.inr (.inr x3)), some (.inl x4), some (.inl (2 + x4)), none, none, none, none, none] [.inl 1, .inl (if 252 < x2 then 252 else x2)] H = _
  refine Eq.trans (e1 hG PT_80 k80_14 _ _ _) ?_
  show G 80 15 [some (.inr (.inr x0)), some (.inr (.inr x1)), some (.inl x2), some (.inr (.inr x3)), some (.inl x4), some (.inl (2 + x4)), none, none, none, none, none] [.inl ((if 252 < x2 then 252 else x2) - 1)] H = _
  refine Eq.trans (e1 hG PT_80 k80_15 _ _ _) ?_
  rfl
theorem b80_17 {G : AG} (hG : FIX G) (x0 : Nat) (x1 : Nat) (x2 : Int32) (x3 : Nat) (x4 : Int32) (x5 : Int32) (x6 : Int32) (o7 : Option AV) (o9 : Option AV) (o10 : Option AV) (H : Hp) : G 80 17 [some (.inr (.inr x0)), some (.inr (.inr x1)), some (.inl x2), some (.inr (.inr x3)), some (.inl x4), some (.inl x5), some (.inl x6), o7, none, o9, o10] [] H = (bif decide ((x6 : Int32) < 0) then some (none, H) else (hAJ H x1 x6).bind fun j1 => bif decide (((lg_cmp j1 0) : Int32) = 0) then G 80 103 [some (.inr (.inr x0)), some (.inr (.inr x1)), some (.inl x2), some (.inr (.inr x3)), some (.inl x4), some (.inl x5), some (.inl x6), some (.inr (.inl j1)), none, o9, o10] [] H else (hAI H x3 0).bind fun i2 => (hSJ H x1 x6 ((j1 * i2.toInt64))).bind fun H3 => G 80 49 [some (.inr (.inr x0)), some (.inr (.inr x1)), some (.inl x2), some (.inr (.inr x3)), some (.inl x4), some (.inl x5), some (.inl x6), some (.inr (.inl j1)), none, some (.inl 0), o10] [] H3) := by
  refine Eq.trans (e1 hG PT_80 k80_17 _ _ _) ?_
  show G 80 19 [some (.inr (.inr x0)), some (.inr (.inr x1)), some (.inl x2), some (.inr (.inr x3)), some (.inl x4), some (.inl x5), some (.inl x6), o7, none, o9, o10] [.inl x6] H = _
  refine Eq.trans (e1 hG PT_80 k80_19 _ _ _) ?_
  refine bfc ?_ ?_
  · show G 80 109 [some (.inr (.inr x0)), some (.inr (.inr x1)), some (.inl x2), some (.inr (.inr x3)), some (.inl x4), some (.inl x5), some (.inl x6), o7, none, o9, o10] [] H = _
    exact e1 hG PT_80 k80_109 _ _ _
  · show G 80 22 [some (.inr (.inr x0)), some (.inr (.inr x1)), some (.inl x2), some (.inr (.inr x3)), some (.inl x4), some (.inl x5), some (.inl x6), o7, none, o9, o10] [] H = _
    refine Eq.trans (e1 hG PT_80 k80_22 _ _ _) ?_
    show G 80 23 [some (.inr (.inr x0)), some (.inr (.inr x1)), some (.inl x2), some (.inr (.inr x3)), some (.inl x4), some (.inl x5), some (.inl x6), o7, none, o9, o10] [.inr (.inr x1)] H = _
    refine Eq.trans (e1 hG PT_80 k80_23 _ _ _) ?_
    show G 80 25 [some (.inr (.inr x0)), some (.inr (.inr x1)), some (.inl x2), some (.inr (.inr x3)), some (.inl x4), some (.inl x5), some (.inl x6), o7, none, o9, o10] [.inl x6, .inr (.inr x1)] H = _
    refine Eq.trans (e1 hG PT_80 k80_25 _ _ _) ?_
    refine bdc fun j1 => ?_
    show G 80 26 [some (.inr (.inr x0)), some (.inr (.inr x1)), some (.inl x2), some (.inr (.inr x3)), some (.inl x4), some (.inl x5), some (.inl x6), o7, none, o9, o10] [.inr (.inl j1)] H = _
    refine Eq.trans (e1 hG PT_80 k80_26 _ _ _) ?_
    show G 80 28 [some (.inr (.inr x0)), some (.inr (.inr x1)), some (.inl x2), some (.inr (.inr x3)), some (.inl x4), some (.inl x5), some (.inl x6), some (.inr (.inl j1)), none, o9, o10] [] H = _
    refine Eq.trans (e1 hG PT_80 k80_28 _ _ _) ?_
    show G 80 30 [some (.inr (.inr x0)), some (.inr (.inr x1)), some (.inl x2), some (.inr (.inr x3)), some (.inl x4), some (.inl x5), some (.inl x6), some (.inr (.inl j1)), none, o9, o10] [.inr (.inl j1)] H = _
    refine Eq.trans (e1 hG PT_80 k80_30 _ _ _) ?_
    show G 80 31 [some (.inr (.inr x0)), some (.inr (.inr x1)), some (.inl x2), some (.inr (.inr x3)), some (.inl x4), some (.inl x5), some (.inl x6), some (.inr (.inl j1)), none, o9, o10] [.inr (.inl 0), .inr (.inl j1)] H = _
    refine Eq.trans (e1 hG PT_80 k80_31 _ _ _) ?_
    show G 80 32 [some (.inr (.inr x0)), some (.inr (.inr x1)), some (.inl x2), some (.inr (.inr x3)), some (.inl x4), some (.inl x5), some (.inl x6), some (.inr (.inl j1)), none, o9, o10] [.inl (lg_cmp j1 0)] H = _
    refine Eq.trans (e1 hG PT_80 k80_32 _ _ _) ?_
    refine bfc ?_ ?_
    · rfl
    · show G 80 35 [some (.inr (.inr x0)), some (.inr (.inr x1)), some (.inl x2), some (.inr (.inr x3)), some (.inl x4), some (.inl x5), some (.inl x6), some (.inr (.inl j1)), none, o9, o10] [] H = _
      refine Eq.trans (e1 hG PT_80 k80_35 _ _ _) ?_
      show G 80 36 [some (.inr (.inr x0)), some (.inr (.inr x1)), some (.inl x2), some (.inr (.inr x3)), some (.inl x4), some (.inl x5), some (.inl x6), some (.inr (.inl j1)), none, o9, o10] [.inr (.inr x1)] H = _
      refine Eq.trans (e1 hG PT_80 k80_36 _ _ _) ?_
      show G 80 38 [some (.inr (.inr x0)), some (.inr (.inr x1)), some (.inl x2), some (.inr (.inr x3)), some (.inl x4), some (.inl x5), some (.inl x6), some (.inr (.inl j1)), none, o9, o10] [.inl x6, .inr (.inr x1)] H = _
      refine Eq.trans (e1 hG PT_80 k80_38 _ _ _) ?_
      show G 80 40 [some (.inr (.inr x0)), some (.inr (.inr x1)), some (.inl x2), some (.inr (.inr x3)), some (.inl x4), some (.inl x5), some (.inl x6), some (.inr (.inl j1)), none, o9, o10] [.inr (.inl j1), .inl x6, .inr (.inr x1)] H = _
      refine Eq.trans (e1 hG PT_80 k80_40 _ _ _) ?_
      show G 80 41 [some (.inr (.inr x0)), some (.inr (.inr x1)), some (.inl x2), some (.inr (.inr x3)), some (.inl x4), some (.inl x5), some (.inl x6), some (.inr (.inl j1)), none, o9, o10] [.inr (.inr x3), .inr (.inl j1), .inl x6, .inr (.inr x1)] H = _
      refine Eq.trans (e1 hG PT_80 k80_41 _ _ _) ?_
      show G 80 42 [some (.inr (.inr x0)), some (.inr (.inr x1)), some (.inl x2), some (.inr (.inr x3)), some (.inl x4), some (.inl x5), some (.inl x6), some (.inr (.inl j1)), none, o9, o10] [.inl 0, .inr (.inr x3), .inr (.inl j1), .inl x6, .inr (.inr x1)] H = _
      refine Eq.trans (e1 hG PT_80 k80_42 _ _ _) ?_
      refine bdc fun i2 => ?_
      show G 80 43 [some (.inr (.inr x0)), some (.inr (.inr x1)), some (.inl x2), some (.inr (.inr x3)), some (.inl x4), some (.inl x5), some (.inl x6), some (.inr (.inl j1)), none, o9, o10] [.inl i2, .inr (.inl j1), .inl x6, .inr (.inr x1)] H = _
      refine Eq.trans (e1 hG PT_80 k80_43 _ _ _) ?_
      show G 80 44 [some (.inr (.inr x0)), some (.inr (.inr x1)), some (.inl x2), some (.inr (.inr x3)), some (.inl x4), some (.inl x5), some (.inl x6), some (.inr (.inl j1)), none, o9, o10] [.inr (.inl i2.toInt64), .inr (.inl j1), .inl x6, .inr (.inr x1)] H = _
      refine Eq.trans (e1 hG PT_80 k80_44 _ _ _) ?_
      show G 80 45 [some (.inr (.inr x0)), some (.inr (.inr x1)), some (.inl x2), some (.inr (.inr x3)), some (.inl x4), some (.inl x5), some (.inl x6), some (.inr (.inl j1)), none, o9, o10] [.inr (.inl (j1 * i2.toInt64)), .inl x6, .inr (.inr x1)] H = _
      refine Eq.trans (e1 hG PT_80 k80_45 _ _ _) ?_
      refine bdc fun H3 => ?_
      show G 80 46 [some (.inr (.inr x0)), some (.inr (.inr x1)), some (.inl x2), some (.inr (.inr x3)), some (.inl x4), some (.inl x5), some (.inl x6), some (.inr (.inl j1)), none, o9, o10] [] H3 = _
      refine Eq.trans (e1 hG PT_80 k80_46 _ _ _) ?_
      show G 80 47 [some (.inr (.inr x0)), some (.inr (.inr x1)), some (.inl x2), some (.inr (.inr x3)), some (.inl x4), some (.inl x5), some (.inl x6), some (.inr (.inl j1)), none, o9, o10] [.inl 0] H3 = _
      refine Eq.trans (e1 hG PT_80 k80_47 _ _ _) ?_
      rfl
theorem b80_49 {G : AG} (hG : FIX G) (x0 : Nat) (x1 : Nat) (x2 : Int32) (x3 : Nat) (x4 : Int32) (x5 : Int32) (x6 : Int32) (x7 : Int64) (x9 : Int32) (o10 : Option AV) (H : Hp) : G 80 49 [some (.inr (.inr x0)), some (.inr (.inr x1)), some (.inl x2), some (.inr (.inr x3)), some (.inl x4), some (.inl x5), some (.inl x6), some (.inr (.inl x7)), none, some (.inl x9), o10] [] H = (bif decide ((x5 : Int32) ≤ (x9 : Int32)) then G 80 103 [some (.inr (.inr x0)), some (.inr (.inr x1)), some (.inl x2), some (.inr (.inr x3)), some (.inl x4), some (.inl x5), some (.inl x6), some (.inr (.inl x7)), none, some (.inl x9), o10] [] H else bif decide ((5 : Int32) ≤ (x9 : Int32)) then G 80 103 [some (.inr (.inr x0)), some (.inr (.inr x1)), some (.inl x2), some (.inr (.inr x3)), some (.inl x4), some (.inl x5), some (.inl x6), some (.inr (.inl x7)), none, some (.inl x9), o10] [] H else (hgR H x0 12).bind fun r1 => (hAR H r1 x9).bind fun r2 => (hAI H r2 x6).bind fun i3 => bif decide ((i3 : Int32) = ((-1) : Int32)) then G 80 97 [some (.inr (.inr x0)), some (.inr (.inr x1)), some (.inl x2), some (.inr (.inr x3)), some (.inl x4), some (.inl x5), some (.inl x6), some (.inr (.inl x7)), none, some (.inl x9), some (.inl i3)] [] H else (hAJ H x1 i3).bind fun j4 => (hAI H x3 ((1 + x9))).bind fun i5 => (hSJ H x1 i3 ((j4 + (x7 * i5.toInt64)))).bind fun H6 => G 80 97 [some (.inr (.inr x0)), some (.inr (.inr x1)), some (.inl x2), some (.inr (.inr x3)), some (.inl x4), some (.inl x5), some (.inl x6), some (.inr (.inl x7)), none, some (.inl x9), some (.inl i3)] [] H6) := by
  refine Eq.trans (e1 hG PT_80 k80_49 _ _ _) ?_
  show G 80 51 [some (.inr (.inr x0)), some (.inr (.inr x1)), some (.inl x2), some (.inr (.inr x3)), some (.inl x4), some (.inl x5), some (.inl x6), some (.inr (.inl x7)), none, some (.inl x9), o10] [.inl x9] H = _
  refine Eq.trans (e1 hG PT_80 k80_51 _ _ _) ?_
  show G 80 53 [some (.inr (.inr x0)), some (.inr (.inr x1)), some (.inl x2), some (.inr (.inr x3)), some (.inl x4), some (.inl x5), some (.inl x6), some (.inr (.inl x7)), none, some (.inl x9), o10] [.inl x5, .inl x9] H = _
  refine Eq.trans (e1 hG PT_80 k80_53 _ _ _) ?_
  refine bfc ?_ ?_
  · rfl
  · show G 80 56 [some (.inr (.inr x0)), some (.inr (.inr x1)), some (.inl x2), some (.inr (.inr x3)), some (.inl x4), some (.inl x5), some (.inl x6), some (.inr (.inl x7)), none, some (.inl x9), o10] [] H = _
    refine Eq.trans (e1 hG PT_80 k80_56 _ _ _) ?_
    show G 80 58 [some (.inr (.inr x0)), some (.inr (.inr x1)), some (.inl x2), some (.inr (.inr x3)), some (.inl x4), some (.inl x5), some (.inl x6), some (.inr (.inl x7)), none, some (.inl x9), o10] [.inl x9] H = _
    refine Eq.trans (e1 hG PT_80 k80_58 _ _ _) ?_
    show G 80 59 [some (.inr (.inr x0)), some (.inr (.inr x1)), some (.inl x2), some (.inr (.inr x3)), some (.inl x4), some (.inl x5), some (.inl x6), some (.inr (.inl x7)), none, some (.inl x9), o10] [.inl 5, .inl x9] H = _
    refine Eq.trans (e1 hG PT_80 k80_59 _ _ _) ?_
    refine bfc ?_ ?_
    · rfl
    · show G 80 62 [some (.inr (.inr x0)), some (.inr (.inr x1)), some (.inl x2), some (.inr (.inr x3)), some (.inl x4), some (.inl x5), some (.inl x6), some (.inr (.inl x7)), none, some (.inl x9), o10] [] H = _
      refine Eq.trans (e1 hG PT_80 k80_62 _ _ _) ?_
      show G 80 63 [some (.inr (.inr x0)), some (.inr (.inr x1)), some (.inl x2), some (.inr (.inr x3)), some (.inl x4), some (.inl x5), some (.inl x6), some (.inr (.inl x7)), none, some (.inl x9), o10] [.inr (.inr x0)] H = _
      refine Eq.trans (e1 hG PT_80 k80_63 _ _ _) ?_
      refine bdc fun r1 => ?_
      show G 80 66 [some (.inr (.inr x0)), some (.inr (.inr x1)), some (.inl x2), some (.inr (.inr x3)), some (.inl x4), some (.inl x5), some (.inl x6), some (.inr (.inl x7)), none, some (.inl x9), o10] [.inr (.inr r1)] H = _
      refine Eq.trans (e1 hG PT_80 k80_66 _ _ _) ?_
      show G 80 68 [some (.inr (.inr x0)), some (.inr (.inr x1)), some (.inl x2), some (.inr (.inr x3)), some (.inl x4), some (.inl x5), some (.inl x6), some (.inr (.inl x7)), none, some (.inl x9), o10] [.inl x9, .inr (.inr r1)] H = _
      refine Eq.trans (e1 hG PT_80 k80_68 _ _ _) ?_
      refine bdc fun r2 => ?_
      show G 80 69 [some (.inr (.inr x0)), some (.inr (.inr x1)), some (.inl x2), some (.inr (.inr x3)), some (.inl x4), some (.inl x5), some (.inl x6), some (.inr (.inl x7)), none, some (.inl x9), o10] [.inr (.inr r2)] H = _
      refine Eq.trans (e1 hG PT_80 k80_69 _ _ _) ?_
      show G 80 71 [some (.inr (.inr x0)), some (.inr (.inr x1)), some (.inl x2), some (.inr (.inr x3)), some (.inl x4), some (.inl x5), some (.inl x6), some (.inr (.inl x7)), none, some (.inl x9), o10] [.inl x6, .inr (.inr r2)] H = _
      refine Eq.trans (e1 hG PT_80 k80_71 _ _ _) ?_
      refine bdc fun i3 => ?_
      show G 80 72 [some (.inr (.inr x0)), some (.inr (.inr x1)), some (.inl x2), some (.inr (.inr x3)), some (.inl x4), some (.inl x5), some (.inl x6), some (.inr (.inl x7)), none, some (.inl x9), o10] [.inl i3] H = _
      refine Eq.trans (e1 hG PT_80 k80_72 _ _ _) ?_
      show G 80 74 [some (.inr (.inr x0)), some (.inr (.inr x1)), some (.inl x2), some (.inr (.inr x3)), some (.inl x4), some (.inl x5), some (.inl x6), some (.inr (.inl x7)), none, some (.inl x9), some (.inl i3)] [] H = _
      refine Eq.trans (e1 hG PT_80 k80_74 _ _ _) ?_
      show G 80 76 [some (.inr (.inr x0)), some (.inr (.inr x1)), some (.inl x2), some (.inr (.inr x3)), some (.inl x4), some (.inl x5), some (.inl x6), some (.inr (.inl x7)), none, some (.inl x9), some (.inl i3)] [.inl i3] H = _
      refine Eq.trans (e1 hG PT_80 k80_76 _ _ _) ?_
      show G 80 77 [some (.inr (.inr x0)), some (.inr (.inr x1)), some (.inl x2), some (.inr (.inr x3)), some (.inl x4), some (.inl x5), some (.inl x6), some (.inr (.inl x7)), none, some (.inl x9), some (.inl i3)] [.inl (-1), .inl i3] H = _
      refine Eq.trans (e1 hG PT_80 k80_77 _ _ _) ?_
      refine bfc ?_ ?_
      · rfl
      · show G 80 80 [some (.inr (.inr x0)), some (.inr (.inr x1)), some (.inl x2), some (.inr (.inr x3)), some (.inl x4), some (.inl x5), some (.inl x6), some (.inr (.inl x7)), none, some (.inl x9), some (.inl i3)] [] H = _
        refine Eq.trans (e1 hG PT_80 k80_80 _ _ _) ?_
        show G 80 81 [some (.inr (.inr x0)), some (.inr (.inr x1)), some (.inl x2), some (.inr (.inr x3)), some (.inl x4), some (.inl x5), some (.inl x6), some (.inr (.inl x7)), none, some (.inl x9), some (.inl i3)] [.inr (.inr x1)] H = _
        refine Eq.trans (e1 hG PT_80 k80_81 _ _ _) ?_
        show G 80 83 [some (.inr (.inr x0)), some (.inr (.inr x1)), some (.inl x2), some (.inr (.inr x3)), some (.inl x4), some (.inl x5), some (.inl x6), some (.inr (.inl x7)), none, some (.inl x9), some (.inl i3)] [.inl i3, .inr (.inr x1)] H = _
        refine Eq.trans (e1 hG PT_80 k80_83 _ _ _) ?_
        show G 80 84 [some (.inr (.inr x0)), some (.inr (.inr x1)), some (.inl x2), some (.inr (.inr x3)), some (.inl x4), some (.inl x5), some (.inl x6), some (.inr (.inl x7)), none, some (.inl x9), some (.inl i3)] [.inl i3, .inr (.inr x1), .inl i3, .inr (.inr x1)] H = _
        refine Eq.trans (e1 hG PT_80 k80_84 _ _ _) ?_
        refine bdc fun j4 => ?_
        show G 80 85 [some (.inr (.inr x0)), some (.inr (.inr x1)), some (.inl x2), some (.inr (.inr x3)), some (.inl x4), some (.inl x5), some (.inl x6), some (.inr (.inl x7)), none, some (.inl x9), some (.inl i3)] [.inr (.inl j4), .inl i3, .inr (.inr x1)] H = _
        refine Eq.trans (e1 hG PT_80 k80_85 _ _ _) ?_
        show G 80 87 [some (.inr (.inr x0)), some (.inr (.inr x1)), some (.inl x2), some (.inr (.inr x3)), some (.inl x4), some (.inl x5), some (.inl x6), some (.inr (.inl x7)), none, some (.inl x9), some (.inl i3)] [.inr (.inl x7), .inr (.inl j4), .inl i3, .inr (.inr x1)] H = _
        refine Eq.trans (e1 hG PT_80 k80_87 _ _ _) ?_
        show G 80 88 [some (.inr (.inr x0)), some (.inr (.inr x1)), some (.inl x2), some (.inr (.inr x3)), some (.inl x4), some (.inl x5), some (.inl x6), some (.inr (.inl x7)), none, some (.inl x9), some (.inl i3)] [.inr (.inr x3), .inr (.inl x7), .inr (.inl j4), .inl i3, .inr (.inr x1)] H = _
        refine Eq.trans (e1 hG PT_80 k80_88 _ _ _) ?_
        show G 80 89 [some (.inr (.inr x0)), some (.inr (.inr x1)), some (.inl x2), some (.inr (.inr x3)), some (.inl x4), some (.inl x5), some (.inl x6), some (.inr (.inl x7)), none, some (.inl x9), some (.inl i3)] [.inl 1, .inr (.inr x3), .inr (.inl x7), .inr (.inl j4), .inl i3, .inr (.inr x1)] H = _
        refine Eq.trans (e1 hG PT_80 k80_89 _ _ _) ?_
        show G 80 91 [some (.inr (.inr x0)), some (.inr (.inr x1)), some (.inl x2), some (.inr (.inr x3)), some (.inl x4), some (.inl x5), some (.inl x6), some (.inr (.inl x7)), none, some (.inl x9), some (.inl i3)] [.inl x9, .inl 1, .inr (.inr x3), .inr (.inl x7), .inr (.inl j4), .inl i3, .inr (.inr x1)] H = _
        refine Eq.trans (e1 hG PT_80 k80_91 _ _ _) ?_
        show G 80 92 [some (.inr (.inr x0)), some (.inr (.inr x1)), some (.inl x2), some (.inr (.inr x3)), some (.inl x4), some (.inl x5), some (.inl x6), some (.inr (.inl x7)), none, some (.inl x9), some (.inl i3)] [.inl (1 + x9), .inr (.inr x3), .inr (.inl x7), .inr (.inl j4), .inl i3, .inr (.inr x1)] H = _
        refine Eq.trans (e1 hG PT_80 k80_92 _ _ _) ?_
        refine bdc fun i5 => ?_
        show G 80 93 [some (.inr (.inr x0)), some (.inr (.inr x1)), some (.inl x2), some (.inr (.inr x3)), some (.inl x4), some (.inl x5), some (.inl x6), some (.inr (.inl x7)), none, some (.inl x9), some (.inl i3)] [.inl i5, .inr (.inl x7), .inr (.inl j4), .inl i3, .inr (.inr x1)] H = _
        refine Eq.trans (e1 hG PT_80 k80_93 _ _ _) ?_
        show G 80 94 [some (.inr (.inr x0)), some (.inr (.inr x1)), some (.inl x2), some (.inr (.inr x3)), some (.inl x4), some (.inl x5), some (.inl x6), some (.inr (.inl x7)), none, some (.inl x9), some (.inl i3)] [.inr (.inl i5.toInt64), .inr (.inl x7), .inr (.inl j4), .inl i3, .inr (.inr x1)] H = _
        refine Eq.trans (e1 hG PT_80 k80_94 _ _ _) ?_
        show G 80 95 [some (.inr (.inr x0)), some (.inr (.inr x1)), some (.inl x2), some (.inr (.inr x3)), some (.inl x4), some (.inl x5), some (.inl x6), some (.inr (.inl x7)), none, some (.inl x9), some (.inl i3)] [.inr (.inl (x7 * i5.toInt64)), .inr (.inl j4), .inl i3, .inr (.inr x1)] H = _
        refine Eq.trans (e1 hG PT_80 k80_95 _ _ _) ?_
        show G 80 96 [some (.inr (.inr x0)), some (.inr (.inr x1)), some (.inl x2), some (.inr (.inr x3)), some (.inl x4), some (.inl x5), some (.inl x6), some (.inr (.inl x7)), none, some (.inl x9), some (.inl i3)] [.inr (.inl (j4 + (x7 * i5.toInt64))), .inl i3, .inr (.inr x1)] H = _
        refine Eq.trans (e1 hG PT_80 k80_96 _ _ _) ?_
        refine bdc fun H6 => ?_
        rfl
theorem b80_97 {G : AG} (hG : FIX G) (x0 : Nat) (x1 : Nat) (x2 : Int32) (x3 : Nat) (x4 : Int32) (x5 : Int32) (x6 : Int32) (x7 : Int64) (x9 : Int32) (x10 : Int32) (H : Hp) : G 80 97 [some (.inr (.inr x0)), some (.inr (.inr x1)), some (.inl x2), some (.inr (.inr x3)), some (.inl x4), some (.inl x5), some (.inl x6), some (.inr (.inl x7)), none, some (.inl x9), some (.inl x10)] [] H = (G 80 49 [some (.inr (.inr x0)), some (.inr (.inr x1)), some (.inl x2), some (.inr (.inr x3)), some (.inl x4), some (.inl x5), some (.inl x6), some (.inr (.inl x7)), none, some (.inl (x9 + 1)), some (.inl x10)] [] H) := by
  refine Eq.trans (e1 hG PT_80 k80_97 _ _ _) ?_
  show G 80 100 [some (.inr (.inr x0)), some (.inr (.inr x1)), some (.inl x2), some (.inr (.inr x3)), some (.inl x4), some (.inl x5), some (.inl x6), some (.inr (.inl x7)), none, some (.inl (x9 + 1)), some (.inl x10)] [] H = _
  refine Eq.trans (e1 hG PT_80 k80_100 _ _ _) ?_
  rfl
theorem b80_103 {G : AG} (hG : FIX G) (x0 : Nat) (x1 : Nat) (x2 : Int32) (x3 : Nat) (x4 : Int32) (x5 : Int32) (x6 : Int32) (x7 : Int64) (o9 : Option AV) (o10 : Option AV) (H : Hp) : G 80 103 [some (.inr (.inr x0)), some (.inr (.inr x1)), some (.inl x2), some (.inr (.inr x3)), some (.inl x4), some (.inl x5), some (.inl x6), some (.inr (.inl x7)), none, o9, o10] [] H = (G 80 17 [some (.inr (.inr x0)), some (.inr (.inr x1)), some (.inl x2), some (.inr (.inr x3)), some (.inl x4), some (.inl x5), some (.inl (x6 + (-1))), some (.inr (.inl x7)), none, o9, o10] [] H) := by
  refine Eq.trans (e1 hG PT_80 k80_103 _ _ _) ?_
  show G 80 106 [some (.inr (.inr x0)), some (.inr (.inr x1)), some (.inl x2), some (.inr (.inr x3)), some (.inl x4), some (.inl x5), some (.inl (x6 + (-1))), some (.inr (.inl x7)), none, o9, o10] [] H = _
  refine Eq.trans (e1 hG PT_80 k80_106 _ _ _) ?_
  rfl
-- StepsAhead$Reckoner.putSecond([JIILStepsAhead$Call;)V
theorem PT_81 : PT 81 = pt81 := rfl
theorem k81_0 : lkp pt81 0 = iP 1 (fAld 0) := rfl
theorem k81_1 : lkp pt81 1 = iRR 4 (gtR 18) := rfl
theorem k81_4 : lkp pt81 4 = iP 5 (fK (.inr (.inl 0))) := rfl
theorem k81_5 : lkp pt81 5 = iC 8 73 5 2 0 := rfl
theorem k81_8 : lkp pt81 8 = iP 9 (fIld 3) := rfl
theorem k81_9 : lkp pt81 9 = iP 11 (fIst 5) := rfl
theorem k81_11 : lkp pt81 11 = iP 13 (fIld 5) := rfl
theorem k81_13 : lkp pt81 13 = iB 16 70 (b1 (fun x => decide (x < 0))) := rfl
theorem k81_16 : lkp pt81 16 = iP 17 (fAld 0) := rfl
theorem k81_17 : lkp pt81 17 = iRR 20 (gtR 14) := rfl
theorem k81_20 : lkp pt81 20 = iP 21 (fAld 0) := rfl
theorem k81_21 : lkp pt81 21 = iRR 24 (gtR 18) := rfl
theorem k81_24 : lkp pt81 24 = iP 25 (fIld 3) := rfl
theorem k81_25 : lkp pt81 25 = iP 27 (fIld 5) := rfl
theorem k81_27 : lkp pt81 27 = iP 28 (f2I (fun x y => x - y)) := rfl
theorem k81_28 : lkp pt81 28 = iP 29 (fK (.inl 1)) := rfl
theorem k81_29 : lkp pt81 29 = iP 30 (f2I (fun x y => x - y)) := rfl
theorem k81_30 : lkp pt81 30 = iC 33 79 1 1 1 := rfl
theorem k81_33 : lkp pt81 33 = iP 35 (fAld 4) := rfl
theorem k81_35 : lkp pt81 35 = iRR 38 (gtR 5) := rfl
theorem k81_38 : lkp pt81 38 = iP 40 (fAld 4) := rfl
theorem k81_40 : lkp pt81 40 = iRI 43 (gtI 3) := rfl
theorem k81_43 : lkp pt81 43 = iCK 46 5 80 11 5 0 := rfl
theorem k81_46 : lkp pt81 46 = iP 47 (fAld 0) := rfl
theorem k81_47 : lkp pt81 47 = iRR 50 (gtR 18) := rfl
theorem k81_50 : lkp pt81 50 = iP 51 (fK (.inl 0)) := rfl
theorem k81_51 : lkp pt81 51 = iP 52 fDup2 := rfl
theorem k81_52 : lkp pt81 52 = iRJ 53 qAJ := rfl
theorem k81_53 : lkp pt81 53 = iP 54 (fAld 1) := rfl
theorem k81_54 : lkp pt81 54 = iP 55 (fIld 2) := rfl
theorem k81_55 : lkp pt81 55 = iP 57 (fK (.inl 6)) := rfl
theorem k81_57 : lkp pt81 57 = iP 58 (f2I (fun x y => x * y)) := rfl
theorem k81_58 : lkp pt81 58 = iP 60 (fIld 5) := rfl
theorem k81_60 : lkp pt81 60 = iP 61 (f2I (fun x y => x + y)) := rfl
theorem k81_61 : lkp pt81 61 = iRJ 62 qAJ := rfl
theorem k81_62 : lkp pt81 62 = iP 63 (f2J (fun x y => x + y)) := rfl
theorem k81_63 : lkp pt81 63 = iW 64 wAJ := rfl
theorem k81_64 : lkp pt81 64 = iP 67 (fInc 5 (-1)) := rfl
theorem k81_67 : lkp pt81 67 = iP 11 fGo := rfl
theorem k81_70 : lkp pt81 70 = iRet rV := rfl
theorem b81_0 {G : AG} (hG : FIX G) (x0 : Nat) (x1 : Nat) (x2 : Int32) (x3 : Int32) (x4 : Nat) (H : Hp) : G 81 0 [some (.inr (.inr x0)), some (.inr (.inr x1)), some (.inl x2), some (.inl x3), some (.inr (.inr x4)), none] [] H = ((hgR H x0 18).bind fun r1 => (G 73 0 [some (.inr (.inr r1)), some (.inr (.inl 0)), none, none, none] [] H).bind fun u2 => (asV u2.1).bind fun _ => G 81 11 [some (.inr (.inr x0)), some (.inr (.inr x1)), some (.inl x2), some (.inl x3), some (.inr (.inr x4)), some (.inl x3)] [] u2.2) := by
  refine Eq.trans (e1 hG PT_81 k81_0 _ _ _) ?_
  show G 81 1 [some (.inr (.inr x0)), some (.inr (.inr x1)), some (.inl x2), some (.inl x3), some (.inr (.inr x4)), none] [.inr (.inr x0)] H = _
  refine Eq.trans (e1 hG PT_81 k81_1 _ _ _) ?_
  refine bdc fun r1 => ?_
  show G 81 4 [some (.inr (.inr x0)), some (.inr (.inr x1)), some (.inl x2), some (.inl x3), some (.inr (.inr x4)), none] [.inr (.inr r1)] H = _
  refine Eq.trans (e1 hG PT_81 k81_4 _ _ _) ?_
  show G 81 5 [some (.inr (.inr x0)), some (.inr (.inr x1)), some (.inl x2), some (.inl x3), some (.inr (.inr x4)), none] [.inr (.inl 0), .inr (.inr r1)] H = _
  refine Eq.trans (e1 hG PT_81 k81_5 _ _ _) ?_
  refine bdc fun u2 => ?_
  refine bdc fun _ => ?_
  show G 81 8 [some (.inr (.inr x0)), some (.inr (.inr x1)), some (.inl x2), some (.inl x3), some (.inr (.inr x4)), none] [] u2.2 = _
  refine Eq.trans (e1 hG PT_81 k81_8 _ _ _) ?_
  show G 81 9 [some (.inr (.inr x0)), some (.inr (.inr x1)), some (.inl x2), some (.inl x3), some (.inr (.inr x4)), none] [.inl x3] u2.2 = _
  refine Eq.trans (e1 hG PT_81 k81_9 _ _ _) ?_
  rfl
theorem b81_11 {G : AG} (hG : FIX G) (x0 : Nat) (x1 : Nat) (x2 : Int32) (x3 : Int32) (x4 : Nat) (x5 : Int32) (H : Hp) : G 81 11 [some (.inr (.inr x0)), some (.inr (.inr x1)), some (.inl x2), some (.inl x3), some (.inr (.inr x4)), some (.inl x5)] [] H = (bif decide ((x5 : Int32) < 0) then some (none, H) else (hgR H x0 14).bind fun r1 => (hgR H x0 18).bind fun r2 => (G 79 0 [some (.inl (((x3 - x5) - 1)))] [] H).bind fun u3 => (asI u3.1).bind fun i4 => (hgR u3.2 x4 5).bind fun r5 => (hgI u3.2 x4 3).bind fun i6 => bif Nat.beq (u3.2.1 r1).1 5 then (G 80 0 [some (.inr (.inr r1)), some (.inr (.inr r2)), some (.inl i4), some (.inr (.inr r5)), some (.inl i6), none, none, none, none, none, none] [] u3.2).bind fun u7 => (asV u7.1).bind fun _ => (hgR u7.2 x0 18).bind fun r8 => (hAJ u7.2 r8 0).bind fun j9 => (hAJ u7.2 x1 (((x2 * 6) + x5))).bind fun j10 => (hSJ u7.2 r8 0 ((j9 + j10))).bind fun H11 => G 81 11 [some (.inr (.inr x0)), some (.inr (.inr x1)), some (.inl x2), some (.inl x3), some (.inr (.inr x4)), some (.inl (x5 + (-1)))] [] H11 else none) := by
  refine Eq.trans (e1 hG PT_81 k81_11 _ _ _) ?_
  show G 81 13 [some (.inr (.inr x0)), some (.inr (.inr x1)), some (.inl x2), some (.inl x3), some (.inr (.inr x4)), some (.inl x5)] [.inl x5] H = _
  refine Eq.trans (e1 hG PT_81 k81_13 _ _ _) ?_
  refine bfc ?_ ?_
  · show G 81 70 [some (.inr (.inr x0)), some (.inr (.inr x1)), some (.inl x2), some (.inl x3), some (.inr (.inr x4)), some (.inl x5)] [] H = _
    exact e1 hG PT_81 k81_70 _ _ _
  · show G 81 16 [some (.inr (.inr x0)), some (.inr (.inr x1)), some (.inl x2), some (.inl x3), some (.inr (.inr x4)), some (.inl x5)] [] H = _
    refine Eq.trans (e1 hG PT_81 k81_16 _ _ _) ?_
    show G 81 17 [some (.inr (.inr x0)), some (.inr (.inr x1)), some (.inl x2), some (.inl x3), some (.inr (.inr x4)), some (.inl x5)] [.inr (.inr x0)] H = _
    refine Eq.trans (e1 hG PT_81 k81_17 _ _ _) ?_
    refine bdc fun r1 => ?_
    show G 81 20 [some (.inr (.inr x0)), some (.inr (.inr x1)), some (.inl x2), some (.inl x3), some (.inr (.inr x4)), some (.inl x5)] [.inr (.inr r1)] H = _
    refine Eq.trans (e1 hG PT_81 k81_20 _ _ _) ?_
    show G 81 21 [some (.inr (.inr x0)), some (.inr (.inr x1)), some (.inl x2), some (.inl x3), some (.inr (.inr x4)), some (.inl x5)] [.inr (.inr x0), .inr (.inr r1)] H = _
    refine Eq.trans (e1 hG PT_81 k81_21 _ _ _) ?_
    refine bdc fun r2 => ?_
    show G 81 24 [some (.inr (.inr x0)), some (.inr (.inr x1)), some (.inl x2), some (.inl x3), some (.inr (.inr x4)), some (.inl x5)] [.inr (.inr r2), .inr (.inr r1)] H = _
    refine Eq.trans (e1 hG PT_81 k81_24 _ _ _) ?_
    show G 81 25 [some (.inr (.inr x0)), some (.inr (.inr x1)), some (.inl x2), some (.inl x3), some (.inr (.inr x4)), some (.inl x5)] [.inl x3, .inr (.inr r2), .inr (.inr r1)] H = _
    refine Eq.trans (e1 hG PT_81 k81_25 _ _ _) ?_
    show G 81 27 [some (.inr (.inr x0)), some (.inr (.inr x1)), some (.inl x2), some (.inl x3), some (.inr (.inr x4)), some (.inl x5)] [.inl x5, .inl x3, .inr (.inr r2), .inr (.inr r1)] H = _
    refine Eq.trans (e1 hG PT_81 k81_27 _ _ _) ?_
    show G 81 28 [some (.inr (.inr x0)), some (.inr (.inr x1)), some (.inl x2), some (.inl x3), some (.inr (.inr x4)), some (.inl x5)] [.inl (x3 - x5), .inr (.inr r2), .inr (.inr r1)] H = _
    refine Eq.trans (e1 hG PT_81 k81_28 _ _ _) ?_
    show G 81 29 [some (.inr (.inr x0)), some (.inr (.inr x1)), some (.inl x2), some (.inl x3), some (.inr (.inr x4)), some (.inl x5)] [.inl 1, .inl (x3 - x5), .inr (.inr r2), .inr (.inr r1)] H = _
    refine Eq.trans (e1 hG PT_81 k81_29 _ _ _) ?_
    show G 81 30 [some (.inr (.inr x0)), some (.inr (.inr x1)), some (.inl x2), some (.inl x3), some (.inr (.inr x4)), some (.inl x5)] [.inl ((x3 - x5) - 1), .inr (.inr r2), .inr (.inr r1)] H = _
    refine Eq.trans (e1 hG PT_81 k81_30 _ _ _) ?_
    refine bdc fun u3 => ?_
    refine bdc fun i4 => ?_
    show G 81 33 [some (.inr (.inr x0)), some (.inr (.inr x1)), some (.inl x2), some (.inl x3), some (.inr (.inr x4)), some (.inl x5)] [.inl i4, .inr (.inr r2), .inr (.inr r1)] u3.2 = _
    refine Eq.trans (e1 hG PT_81 k81_33 _ _ _) ?_
    show G 81 35 [some (.inr (.inr x0)), some (.inr (.inr x1)), some (.inl x2), some (.inl x3), some (.inr (.inr x4)), some (.inl x5)] [.inr (.inr x4), .inl i4, .inr (.inr r2), .inr (.inr r1)] u3.2 = _
    refine Eq.trans (e1 hG PT_81 k81_35 _ _ _) ?_
    refine bdc fun r5 => ?_
    show G 81 38 [some (.inr (.inr x0)), some (.inr (.inr x1)), some (.inl x2), some (.inl x3), some (.inr (.inr x4)), some (.inl x5)] [.inr (.inr r5), .inl i4, .inr (.inr r2), .inr (.inr r1)] u3.2 = _
    refine Eq.trans (e1 hG PT_81 k81_38 _ _ _) ?_
    show G 81 40 [some (.inr (.inr x0)), some (.inr (.inr x1)), some (.inl x2), some (.inl x3), some (.inr (.inr x4)), some (.inl x5)] [.inr (.inr x4), .inr (.inr r5), .inl i4, .inr (.inr r2), .inr (.inr r1)] u3.2 = _
    refine Eq.trans (e1 hG PT_81 k81_40 _ _ _) ?_
    refine bdc fun i6 => ?_
    show G 81 43 [some (.inr (.inr x0)), some (.inr (.inr x1)), some (.inl x2), some (.inl x3), some (.inr (.inr x4)), some (.inl x5)] [.inl i6, .inr (.inr r5), .inl i4, .inr (.inr r2), .inr (.inr r1)] u3.2 = _
    refine Eq.trans (e1 hG PT_81 k81_43 _ _ _) ?_
    refine bfc ?_ ?_
    · refine bdc fun u7 => ?_
      refine bdc fun _ => ?_
      show G 81 46 [some (.inr (.inr x0)), some (.inr (.inr x1)), some (.inl x2), some (.inl x3), some (.inr (.inr x4)), some (.inl x5)] [] u7.2 = _
      refine Eq.trans (e1 hG PT_81 k81_46 _ _ _) ?_
      show G 81 47 [some (.inr (.inr x0)), some (.inr (.inr x1)), some (.inl x2), some (.inl x3), some (.inr (.inr x4)), some (.inl x5)] [.inr (.inr x0)] u7.2 = _
      refine Eq.trans (e1 hG PT_81 k81_47 _ _ _) ?_
      refine bdc fun r8 => ?_
      show G 81 50 [some (.inr (.inr x0)), some (.inr (.inr x1)), some (.inl x2), some (.inl x3), some (.inr (.inr x4)), some (.inl x5)] [.inr (.inr r8)] u7.2 = _
      refine Eq.trans (e1 hG PT_81 k81_50 _ _ _) ?_
      show G 81 51 [some (.inr (.inr x0)), some (.inr (.inr x1)), some (.inl x2), some (.inl x3), some (.inr (.inr x4)), some (.inl x5)] [.inl 0, .inr (.inr r8)] u7.2 = _
      refine Eq.trans (e1 hG PT_81 k81_51 _ _ _) ?_
      show G 81 52 [some (.inr (.inr x0)), some (.inr (.inr x1)), some (.inl x2), some (.inl x3), some (.inr (.inr x4)), some (.inl x5)] [.inl 0, .inr (.inr r8), .inl 0, .inr (.inr r8)] u7.2 = _
      refine Eq.trans (e1 hG PT_81 k81_52 _ _ _) ?_
      refine bdc fun j9 => ?_
      show G 81 53 [some (.inr (.inr x0)), some (.inr (.inr x1)), some (.inl x2), some (.inl x3), some (.inr (.inr x4)), some (.inl x5)] [.inr (.inl j9), .inl 0, .inr (.inr r8)] u7.2 = _
      refine Eq.trans (e1 hG PT_81 k81_53 _ _ _) ?_
      show G 81 54 [some (.inr (.inr x0)), some (.inr (.inr x1)), some (.inl x2), some (.inl x3), some (.inr (.inr x4)), some (.inl x5)] [.inr (.inr x1), .inr (.inl j9), .inl 0, .inr (.inr r8)] u7.2 = _
      refine Eq.trans (e1 hG PT_81 k81_54 _ _ _) ?_
      show G 81 55 [some (.inr (.inr x0)), some (.inr (.inr x1)), some (.inl x2), some (.inl x3), some (.inr (.inr x4)), some (.inl x5)] [.inl x2, .inr (.inr x1), .inr (.inl j9), .inl 0, .inr (.inr r8)] u7.2 = _
      refine Eq.trans (e1 hG PT_81 k81_55 _ _ _) ?_
      show G 81 57 [some (.inr (.inr x0)), some (.inr (.inr x1)), some (.inl x2), some (.inl x3), some (.inr (.inr x4)), some (.inl x5)] [.inl 6, .inl x2, .inr (.inr x1), .inr (.inl j9), .inl 0, .inr (.inr r8)] u7.2 = _
      refine Eq.trans (e1 hG PT_81 k81_57 _ _ _) ?_
      show G 81 58 [some (.inr (.inr x0)), some (.inr (.inr x1)), some (.inl x2), some (.inl x3), some (.inr (.inr x4)), some (.inl x5)] [.inl (x2 * 6), .inr (.inr x1), .inr (.inl j9), .inl 0, .inr (.inr r8)] u7.2 = _
      refine Eq.trans (e1 hG PT_81 k81_58 _ _ _) ?_
      show G 81 60 [some (.inr (.inr x0)), some (.inr (.inr x1)), some (.inl x2), some (.inl x3), some (.inr (.inr x4)), some (.inl x5)] [.inl x5, .inl (x2 * 6), .inr (.inr x1), .inr (.inl j9), .inl 0, .inr (.inr r8)] u7.2 = _
      refine Eq.trans (e1 hG PT_81 k81_60 _ _ _) ?_
      show G 81 61 [some (.inr (.inr x0)), some (.inr (.inr x1)), some (.inl x2), some (.inl x3), some (.inr (.inr x4)), some (.inl x5)] [.inl ((x2 * 6) + x5), .inr (.inr x1), .inr (.inl j9), .inl 0, .inr (.inr r8)] u7.2 = _
      refine Eq.trans (e1 hG PT_81 k81_61 _ _ _) ?_
      refine bdc fun j10 => ?_
      show G 81 62 [some (.inr (.inr x0)), some (.inr (.inr x1)), some (.inl x2), some (.inl x3), some (.inr (.inr x4)), some (.inl x5)] [.inr (.inl j10), .inr (.inl j9), .inl 0, .inr (.inr r8)] u7.2 = _
      refine Eq.trans (e1 hG PT_81 k81_62 _ _ _) ?_
      show G 81 63 [some (.inr (.inr x0)), some (.inr (.inr x1)), some (.inl x2), some (.inl x3), some (.inr (.inr x4)), some (.inl x5)] [.inr (.inl (j9 + j10)), .inl 0, .inr (.inr r8)] u7.2 = _
      refine Eq.trans (e1 hG PT_81 k81_63 _ _ _) ?_
      refine bdc fun H11 => ?_
      show G 81 64 [some (.inr (.inr x0)), some (.inr (.inr x1)), some (.inl x2), some (.inl x3), some (.inr (.inr x4)), some (.inl x5)] [] H11 = _
      refine Eq.trans (e1 hG PT_81 k81_64 _ _ _) ?_
      show G 81 67 [some (.inr (.inr x0)), some (.inr (.inr x1)), some (.inl x2), some (.inl x3), some (.inr (.inr x4)), some (.inl (x5 + (-1)))] [] H11 = _
      refine Eq.trans (e1 hG PT_81 k81_67 _ _ _) ?_
      rfl
    · rfl
-- StepsAhead$Reckoner.addOp()V
theorem PT_82 : PT 82 = pt82 := rfl
theorem k82_0 : lkp pt82 0 = iP 1 (fK (.inl 0)) := rfl
theorem k82_1 : lkp pt82 1 = iP 2 (fIst 1) := rfl
theorem k82_2 : lkp pt82 2 = iP 3 (fIld 1) := rfl
theorem k82_3 : lkp pt82 3 = iP 6 (fK (.inl 252)) := rfl
theorem k82_6 : lkp pt82 6 = iB 9 64 (b2 (fun x y => decide (y ≤ x))) := rfl
theorem k82_9 : lkp pt82 9 = iP 10 (fAld 0) := rfl
theorem k82_10 : lkp pt82 10 = iRR 13 (gtR 17) := rfl
theorem k82_13 : lkp pt82 13 = iP 14 (fIld 1) := rfl
theorem k82_14 : lkp pt82 14 = iRJ 15 qAJ := rfl
theorem k82_15 : lkp pt82 15 = iP 16 (fLst 2) := rfl
theorem k82_16 : lkp pt82 16 = iP 17 (fJld 2) := rfl
theorem k82_17 : lkp pt82 17 = iP 18 (fK (.inr (.inl 0))) := rfl
theorem k82_18 : lkp pt82 18 = iP 19 fLcmp := rfl
theorem k82_19 : lkp pt82 19 = iB 22 58 (b1 (fun x => decide (x = 0))) := rfl
theorem k82_22 : lkp pt82 22 = iP 23 (fJld 2) := rfl
theorem k82_23 : lkp pt82 23 = iP 26 (fK (.inr (.inl 8640000000))) := rfl
theorem k82_26 : lkp pt82 26 = iP 27 fLcmp := rfl
theorem k82_27 : lkp pt82 27 = iB 30 38 (b1 (fun x => decide (0 < x))) := rfl
theorem k82_30 : lkp pt82 30 = iP 31 (fJld 2) := rfl
theorem k82_31 : lkp pt82 31 = iP 34 (fK (.inr (.inl (-8640000000)))) := rfl
theorem k82_34 : lkp pt82 34 = iP 35 fLcmp := rfl
theorem k82_35 : lkp pt82 35 = iB 38 43 (b1 (fun x => decide (0 ≤ x))) := rfl
theorem k82_38 : lkp pt82 38 = iP 39 (fAld 0) := rfl
theorem k82_39 : lkp pt82 39 = iP 40 (fK (.inl 1)) := rfl
theorem k82_40 : lkp pt82 40 = iW 43 (ptZ 20) := rfl
theorem k82_43 : lkp pt82 43 = iP 44 (fAld 0) := rfl
theorem k82_44 : lkp pt82 44 = iP 45 (fAld 0) := rfl
theorem k82_45 : lkp pt82 45 = iRR 48 (gtR 15) := rfl
theorem k82_48 : lkp pt82 48 = iP 49 (fAld 0) := rfl
theorem k82_49 : lkp pt82 49 = iRI 52 (gtI 16) := rfl
theorem k82_52 : lkp pt82 52 = iRR 53 qAR := rfl
theorem k82_53 : lkp pt82 53 = iP 54 (fIld 1) := rfl
theorem k82_54 : lkp pt82 54 = iP 55 (fJld 2) := rfl
theorem k82_55 : lkp pt82 55 = iCK 58 6 74 5 4 0 := rfl
theorem k82_58 : lkp pt82 58 = iP 61 (fInc 1 1) := rfl
theorem k82_61 : lkp pt82 61 = iP 2 fGo := rfl
theorem k82_64 : lkp pt82 64 = iRet rV := rfl
theorem b82_0 {G : AG} (hG : FIX G) (x0 : Nat) (H : Hp) : G 82 0 [some (.inr (.inr x0)), none, none, none] [] H = (G 82 2 [some (.inr (.inr x0)), some (.inl 0), none, none] [] H) := by
  refine Eq.trans (e1 hG PT_82 k82_0 _ _ _) ?_
  show G 82 1 [some (.inr (.inr x0)), none, none, none] [.inl 0] H = _
  refine Eq.trans (e1 hG PT_82 k82_1 _ _ _) ?_
  rfl
theorem b82_2 {G : AG} (hG : FIX G) (x0 : Nat) (x1 : Int32) (o2 : Option AV) (H : Hp) : G 82 2 [some (.inr (.inr x0)), some (.inl x1), o2, none] [] H = (bif decide ((252 : Int32) ≤ (x1 : Int32)) then some (none, H) else (hgR H x0 17).bind fun r1 => (hAJ H r1 x1).bind fun j2 => bif decide (((lg_cmp j2 0) : Int32) = 0) then G 82 58 [some (.inr (.inr x0)), some (.inl x1), some (.inr (.inl j2)), none] [] H else bif decide (0 < ((lg_cmp j2 8640000000) : Int32)) then G 82 38 [some (.inr (.inr x0)), some (.inl x1), some (.inr (.inl j2)), none] [] H else bif decide (0 ≤ ((lg_cmp j2 ((-8640000000))) : Int32)) then G 82 43 [some (.inr (.inr x0)), some (.inl x1), some (.inr (.inl j2)), none] [] H else G 82 38 [some (.inr (.inr x0)), some (.inl x1), some (.inr (.inl j2)), none] [] H) := by
  refine Eq.trans (e1 hG PT_82 k82_2 _ _ _) ?_
  show G 82 3 [some (.inr (.inr x0)), some (.inl x1), o2, none] [.inl x1] H = _
  refine Eq.trans (e1 hG PT_82 k82_3 _ _ _) ?_
  show G 82 6 [some (.inr (.inr x0)), some (.inl x1), o2, none] [.inl 252, .inl x1] H = _
  refine Eq.trans (e1 hG PT_82 k82_6 _ _ _) ?_
  refine bfc ?_ ?_
  · show G 82 64 [some (.inr (.inr x0)), some (.inl x1), o2, none] [] H = _
    exact e1 hG PT_82 k82_64 _ _ _
  · show G 82 9 [some (.inr (.inr x0)), some (.inl x1), o2, none] [] H = _
    refine Eq.trans (e1 hG PT_82 k82_9 _ _ _) ?_
    show G 82 10 [some (.inr (.inr x0)), some (.inl x1), o2, none] [.inr (.inr x0)] H = _
    refine Eq.trans (e1 hG PT_82 k82_10 _ _ _) ?_
    refine bdc fun r1 => ?_
    show G 82 13 [some (.inr (.inr x0)), some (.inl x1), o2, none] [.inr (.inr r1)] H = _
    refine Eq.trans (e1 hG PT_82 k82_13 _ _ _) ?_
    show G 82 14 [some (.inr (.inr x0)), some (.inl x1), o2, none] [.inl x1, .inr (.inr r1)] H = _
    refine Eq.trans (e1 hG PT_82 k82_14 _ _ _) ?_
    refine bdc fun j2 => ?_
    show G 82 15 [some (.inr (.inr x0)), some (.inl x1), o2, none] [.inr (.inl j2)] H = _
    refine Eq.trans (e1 hG PT_82 k82_15 _ _ _) ?_
    show G 82 16 [some (.inr (.inr x0)), some (.inl x1), some (.inr (.inl j2)), none] [] H = _
    refine Eq.trans (e1 hG PT_82 k82_16 _ _ _) ?_
    show G 82 17 [some (.inr (.inr x0)), some (.inl x1), some (.inr (.inl j2)), none] [.inr (.inl j2)] H = _
    refine Eq.trans (e1 hG PT_82 k82_17 _ _ _) ?_
    show G 82 18 [some (.inr (.inr x0)), some (.inl x1), some (.inr (.inl j2)), none] [.inr (.inl 0), .inr (.inl j2)] H = _
    refine Eq.trans (e1 hG PT_82 k82_18 _ _ _) ?_
    show G 82 19 [some (.inr (.inr x0)), some (.inl x1), some (.inr (.inl j2)), none] [.inl (lg_cmp j2 0)] H = _
    refine Eq.trans (e1 hG PT_82 k82_19 _ _ _) ?_
    refine bfc ?_ ?_
    · rfl
    · show G 82 22 [some (.inr (.inr x0)), some (.inl x1), some (.inr (.inl j2)), none] [] H = _
      refine Eq.trans (e1 hG PT_82 k82_22 _ _ _) ?_
      show G 82 23 [some (.inr (.inr x0)), some (.inl x1), some (.inr (.inl j2)), none] [.inr (.inl j2)] H = _
      refine Eq.trans (e1 hG PT_82 k82_23 _ _ _) ?_
      show G 82 26 [some (.inr (.inr x0)), some (.inl x1), some (.inr (.inl j2)), none] [.inr (.inl 8640000000), .inr (.inl j2)] H = _
      refine Eq.trans (e1 hG PT_82 k82_26 _ _ _) ?_
      show G 82 27 [some (.inr (.inr x0)), some (.inl x1), some (.inr (.inl j2)), none] [.inl (lg_cmp j2 8640000000)] H = _
      refine Eq.trans (e1 hG PT_82 k82_27 _ _ _) ?_
      refine bfc ?_ ?_
      · rfl
      · show G 82 30 [some (.inr (.inr x0)), some (.inl x1), some (.inr (.inl j2)), none] [] H = _
        refine Eq.trans (e1 hG PT_82 k82_30 _ _ _) ?_
        show G 82 31 [some (.inr (.inr x0)), some (.inl x1), some (.inr (.inl j2)), none] [.inr (.inl j2)] H = _
        refine Eq.trans (e1 hG PT_82 k82_31 _ _ _) ?_
        show G 82 34 [some (.inr (.inr x0)), some (.inl x1), some (.inr (.inl j2)), none] [.inr (.inl (-8640000000)), .inr (.inl j2)] H = _
        refine Eq.trans (e1 hG PT_82 k82_34 _ _ _) ?_
        show G 82 35 [some (.inr (.inr x0)), some (.inl x1), some (.inr (.inl j2)), none] [.inl (lg_cmp j2 ((-8640000000)))] H = _
        refine Eq.trans (e1 hG PT_82 k82_35 _ _ _) ?_
        refine bfc ?_ ?_
        · rfl
        · rfl
theorem b82_38 {G : AG} (hG : FIX G) (x0 : Nat) (x1 : Int32) (x2 : Int64) (H : Hp) : G 82 38 [some (.inr (.inr x0)), some (.inl x1), some (.inr (.inl x2)), none] [] H = ((hpZ H x0 20 1).bind fun H1 => G 82 43 [some (.inr (.inr x0)), some (.inl x1), some (.inr (.inl x2)), none] [] H1) := by
  refine Eq.trans (e1 hG PT_82 k82_38 _ _ _) ?_
  show G 82 39 [some (.inr (.inr x0)), some (.inl x1), some (.inr (.inl x2)), none] [.inr (.inr x0)] H = _
  refine Eq.trans (e1 hG PT_82 k82_39 _ _ _) ?_
  show G 82 40 [some (.inr (.inr x0)), some (.inl x1), some (.inr (.inl x2)), none] [.inl 1, .inr (.inr x0)] H = _
  refine Eq.trans (e1 hG PT_82 k82_40 _ _ _) ?_
  refine bdc fun H1 => ?_
  rfl
theorem b82_43 {G : AG} (hG : FIX G) (x0 : Nat) (x1 : Int32) (x2 : Int64) (H : Hp) : G 82 43 [some (.inr (.inr x0)), some (.inl x1), some (.inr (.inl x2)), none] [] H = ((hgR H x0 15).bind fun r1 => (hgI H x0 16).bind fun i2 => (hAR H r1 i2).bind fun r3 => bif Nat.beq (H.1 x0).1 6 then (G 74 0 [some (.inr (.inr x0)), some (.inr (.inr r3)), some (.inl x1), some (.inr (.inl x2)), none] [] H).bind fun u4 => (asV u4.1).bind fun _ => G 82 58 [some (.inr (.inr x0)), some (.inl x1), some (.inr (.inl x2)), none] [] u4.2 else none) := by
  refine Eq.trans (e1 hG PT_82 k82_43 _ _ _) ?_
  show G 82 44 [some (.inr (.inr x0)), some (.inl x1), some (.inr (.inl x2)), none] [.inr (.inr x0)] H = _
  refine Eq.trans (e1 hG PT_82 k82_44 _ _ _) ?_
  show G 82 45 [some (.inr (.inr x0)), some (.inl x1), some (.inr (.inl x2)), none] [.inr (.inr x0), .inr (.inr x0)] H = _
  refine Eq.trans (e1 hG PT_82 k82_45 _ _ _) ?_
  refine bdc fun r1 => ?_
  show G 82 48 [some (.inr (.inr x0)), some (.inl x1), some (.inr (.inl x2)), none] [.inr (.inr r1), .inr (.inr x0)] H = _
  refine Eq.trans (e1 hG PT_82 k82_48 _ _ _) ?_
  show G 82 49 [some (.inr (.inr x0)), some (.inl x1), some (.inr (.inl x2)), none] [.inr (.inr x0), .inr (.inr r1), .inr (.inr x0)] H = _
  refine Eq.trans (e1 hG PT_82 k82_49 _ _ _) ?_
  refine bdc fun i2 => ?_
  show G 82 52 [some (.inr (.inr x0)), some (.inl x1), some (.inr (.inl x2)), none] [.inl i2, .inr (.inr r1), .inr (.inr x0)] H = _
  refine Eq.trans (e1 hG PT_82 k82_52 _ _ _) ?_
  refine bdc fun r3 => ?_
  show G 82 53 [some (.inr (.inr x0)), some (.inl x1), some (.inr (.inl x2)), none] [.inr (.inr r3), .inr (.inr x0)] H = _
  refine Eq.trans (e1 hG PT_82 k82_53 _ _ _) ?_
  show G 82 54 [some (.inr (.inr x0)), some (.inl x1), some (.inr (.inl x2)), none] [.inl x1, .inr (.inr r3), .inr (.inr x0)] H = _
  refine Eq.trans (e1 hG PT_82 k82_54 _ _ _) ?_
  show G 82 55 [some (.inr (.inr x0)), some (.inl x1), some (.inr (.inl x2)), none] [.inr (.inl x2), .inl x1, .inr (.inr r3), .inr (.inr x0)] H = _
  refine Eq.trans (e1 hG PT_82 k82_55 _ _ _) ?_
  refine bfc ?_ ?_
  · refine bdc fun u4 => ?_
    refine bdc fun _ => ?_
    rfl
  · rfl
theorem b82_58 {G : AG} (hG : FIX G) (x0 : Nat) (x1 : Int32) (x2 : Int64) (H : Hp) : G 82 58 [some (.inr (.inr x0)), some (.inl x1), some (.inr (.inl x2)), none] [] H = (G 82 2 [some (.inr (.inr x0)), some (.inl (x1 + 1)), some (.inr (.inl x2)), none] [] H) := by
  refine Eq.trans (e1 hG PT_82 k82_58 _ _ _) ?_
  show G 82 61 [some (.inr (.inr x0)), some (.inl (x1 + 1)), some (.inr (.inl x2)), none] [] H = _
  refine Eq.trans (e1 hG PT_82 k82_61 _ _ _) ?_
  rfl
-- StepsAhead$Reckoner.takeEither()V
theorem PT_83 : PT 83 = pt83 := rfl
theorem k83_0 : lkp pt83 0 = iP 1 (fAld 0) := rfl
theorem k83_1 : lkp pt83 1 = iRI 4 (gtI 16) := rfl
theorem k83_4 : lkp pt83 4 = iP 5 (fK (.inl 2)) := rfl
theorem k83_5 : lkp pt83 5 = iB 8 9 (b2 (fun x y => decide (y ≤ x))) := rfl
theorem k83_8 : lkp pt83 8 = iRet rV := rfl
theorem k83_9 : lkp pt83 9 = iP 10 (fAld 0) := rfl
theorem k83_10 : lkp pt83 10 = iRR 13 (gtR 15) := rfl
theorem k83_13 : lkp pt83 13 = iP 14 (fAld 0) := rfl
theorem k83_14 : lkp pt83 14 = iRI 17 (gtI 16) := rfl
theorem k83_17 : lkp pt83 17 = iP 18 (fK (.inl 1)) := rfl
theorem k83_18 : lkp pt83 18 = iP 19 (f2I (fun x y => x - y)) := rfl
theorem k83_19 : lkp pt83 19 = iRR 20 qAR := rfl
theorem k83_20 : lkp pt83 20 = iP 21 (fAst 1) := rfl
theorem k83_21 : lkp pt83 21 = iP 22 (fAld 0) := rfl
theorem k83_22 : lkp pt83 22 = iRR 25 (gtR 15) := rfl
theorem k83_25 : lkp pt83 25 = iP 26 (fAld 0) := rfl
theorem k83_26 : lkp pt83 26 = iRI 29 (gtI 16) := rfl
theorem k83_29 : lkp pt83 29 = iRR 30 qAR := rfl
theorem k83_30 : lkp pt83 30 = iP 31 (fAst 2) := rfl
theorem k83_31 : lkp pt83 31 = iP 32 (fAld 0) := rfl
theorem k83_32 : lkp pt83 32 = iP 33 fDup := rfl
theorem k83_33 : lkp pt83 33 = iRI 36 (gtI 16) := rfl
theorem k83_36 : lkp pt83 36 = iP 37 (fK (.inl 2)) := rfl
theorem k83_37 : lkp pt83 37 = iP 38 (f2I (fun x y => x - y)) := rfl
theorem k83_38 : lkp pt83 38 = iW 41 (ptI 16) := rfl
theorem k83_41 : lkp pt83 41 = iP 42 (fK (.inl 0)) := rfl
theorem k83_42 : lkp pt83 42 = iP 43 (fIst 3) := rfl
theorem k83_43 : lkp pt83 43 = iP 44 (fIld 3) := rfl
theorem k83_44 : lkp pt83 44 = iP 47 (fK (.inl 252)) := rfl
theorem k83_47 : lkp pt83 47 = iB 50 91 (b2 (fun x y => decide (y ≤ x))) := rfl
theorem k83_50 : lkp pt83 50 = iP 51 (fAld 0) := rfl
theorem k83_51 : lkp pt83 51 = iRR 54 (gtR 17) := rfl
theorem k83_54 : lkp pt83 54 = iP 55 (fIld 3) := rfl
theorem k83_55 : lkp pt83 55 = iP 56 (fAld 0) := rfl
theorem k83_56 : lkp pt83 56 = iRI 59 (gtI 19) := rfl
theorem k83_59 : lkp pt83 59 = iP 60 (fK (.inl 1)) := rfl
theorem k83_60 : lkp pt83 60 = iB 63 75 (b2 (fun x y => decide (x ≠ y))) := rfl
theorem k83_63 : lkp pt83 63 = iP 64 (fAld 1) := rfl
theorem k83_64 : lkp pt83 64 = iP 65 (fIld 3) := rfl
theorem k83_65 : lkp pt83 65 = iRJ 66 qAJ := rfl
theorem k83_66 : lkp pt83 66 = iP 67 (fAld 2) := rfl
theorem k83_67 : lkp pt83 67 = iP 68 (fIld 3) := rfl
theorem k83_68 : lkp pt83 68 = iRJ 69 qAJ := rfl
theorem k83_69 : lkp pt83 69 = iP 72 (fMJ2 (fun x y => if y < x then x else y)) := rfl
theorem k83_72 : lkp pt83 72 = iP 84 fGo := rfl
theorem k83_75 : lkp pt83 75 = iP 76 (fAld 1) := rfl
theorem k83_76 : lkp pt83 76 = iP 77 (fIld 3) := rfl
theorem k83_77 : lkp pt83 77 = iRJ 78 qAJ := rfl
theorem k83_78 : lkp pt83 78 = iP 79 (fAld 2) := rfl
theorem k83_79 : lkp pt83 79 = iP 80 (fIld 3) := rfl
theorem k83_80 : lkp pt83 80 = iRJ 81 qAJ := rfl
theorem k83_81 : lkp pt83 81 = iP 84 (fMJ2 (fun x y => if y < x then y else x)) := rfl
theorem k83_84 : lkp pt83 84 = iW 85 wAJ := rfl
theorem k83_85 : lkp pt83 85 = iP 88 (fInc 3 1) := rfl
theorem k83_88 : lkp pt83 88 = iP 43 fGo := rfl
theorem k83_91 : lkp pt83 91 = iP 92 (fAld 0) := rfl
theorem k83_92 : lkp pt83 92 = iRR 95 (gtR 17) := rfl
theorem k83_95 : lkp pt83 95 = iP 96 (fK (.inl 0)) := rfl
theorem k83_96 : lkp pt83 96 = iP 97 fDup2 := rfl
theorem k83_97 : lkp pt83 97 = iRJ 98 qAJ := rfl
theorem k83_98 : lkp pt83 98 = iP 101 (fK (.inr (.inl 8640))) := rfl
theorem k83_101 : lkp pt83 101 = iP 102 (f2J (fun x y => x + y)) := rfl
theorem k83_102 : lkp pt83 102 = iW 103 wAJ := rfl
theorem k83_103 : lkp pt83 103 = iP 104 (fAld 0) := rfl
theorem k83_104 : lkp pt83 104 = iCK 107 6 82 4 1 0 := rfl
theorem k83_107 : lkp pt83 107 = iRet rV := rfl
theorem b83_0 {G : AG} (hG : FIX G) (x0 : Nat) (H : Hp) : G 83 0 [some (.inr (.inr x0)), none, none, none] [] H = ((hgI H x0 16).bind fun i1 => bif decide ((2 : Int32) ≤ (i1 : Int32)) then (hgR H x0 15).bind fun r2 => (hgI H x0 16).bind fun i3 => (hAR H r2 ((i3 - 1))).bind fun r4 => (hgR H x0 15).bind fun r5 => (hgI H x0 16).bind fun i6 => (hAR H r5 i6).bind fun r7 => (hgI H x0 16).bind fun i8 => (hpI H x0 16 ((i8 - 2))).bind fun H9 => G 83 43 [some (.inr (.inr x0)), some (.inr (.inr r4)), some (.inr (.inr r7)), some (.inl 0)] [] H9 else some (none, H)) := by
  refine Eq.trans (e1 hG PT_83 k83_0 _ _ _) ?_
  show G 83 1 [some (.inr (.inr x0)), none, none, none] [.inr (.inr x0)] H = _
  refine Eq.trans (e1 hG PT_83 k83_1 _ _ _) ?_
  refine bdc fun i1 => ?_
  show G 83 4 [some (.inr (.inr x0)), none, none, none] [.inl i1] H = _
  refine Eq.trans (e1 hG PT_83 k83_4 _ _ _) ?_
  show G 83 5 [some (.inr (.inr x0)), none, none, none] [.inl 2, .inl i1] H = _
  refine Eq.trans (e1 hG PT_83 k83_5 _ _ _) ?_
  refine bfc ?_ ?_
  · show G 83 9 [some (.inr (.inr x0)), none, none, none] [] H = _
    refine Eq.trans (e1 hG PT_83 k83_9 _ _ _) ?_
    show G 83 10 [some (.inr (.inr x0)), none, none, none] [.inr (.inr x0)] H = _
    refine Eq.trans (e1 hG PT_83 k83_10 _ _ _) ?_
    refine bdc fun r2 => ?_
    show G 83 13 [some (.inr (.inr x0)), none, none, none] [.inr (.inr r2)] H = _
    refine Eq.trans (e1 hG PT_83 k83_13 _ _ _) ?_
    show G 83 14 [some (.inr (.inr x0)), none, none, none] [.inr (.inr x0), .inr (.inr r2)] H = _
    refine Eq.trans (e1 hG PT_83 k83_14 _ _ _) ?_
    refine bdc fun i3 => ?_
    show G 83 17 [some (.inr (.inr x0)), none, none, none] [.inl i3, .inr (.inr r2)] H = _
    refine Eq.trans (e1 hG PT_83 k83_17 _ _ _) ?_
    show G 83 18 [some (.inr (.inr x0)), none, none, none] [.inl 1, .inl i3, .inr (.inr r2)] H = _
    refine Eq.trans (e1 hG PT_83 k83_18 _ _ _) ?_
    show G 83 19 [some (.inr (.inr x0)), none, none, none] [.inl (i3 - 1), .inr (.inr r2)] H = _
    refine Eq.trans (e1 hG PT_83 k83_19 _ _ _) ?_
    refine bdc fun r4 => ?_
    show G 83 20 [some (.inr (.inr x0)), none, none, none] [.inr (.inr r4)] H = _
    refine Eq.trans (e1 hG PT_83 k83_20 _ _ _) ?_
    show G 83 21 [some (.inr (.inr x0)), some (.inr (.inr r4)), none, none] [] H = _
    refine Eq.trans (e1 hG PT_83 k83_21 _ _ _) ?_
    show G 83 22 [some (.inr (.inr x0)), some (.inr (.inr r4)), none, none] [.inr (.inr x0)] H = _
    refine Eq.trans (e1 hG PT_83 k83_22 _ _ _) ?_
    refine bdc fun r5 => ?_
    show G 83 25 [some (.inr (.inr x0)), some (.inr (.inr r4)), none, none] [.inr (.inr r5)] H = _
    refine Eq.trans (e1 hG PT_83 k83_25 _ _ _) ?_
    show G 83 26 [some (.inr (.inr x0)), some (.inr (.inr r4)), none, none] [.inr (.inr x0), .inr (.inr r5)] H = _
    refine Eq.trans (e1 hG PT_83 k83_26 _ _ _) ?_
    refine bdc fun i6 => ?_
    show G 83 29 [some (.inr (.inr x0)), some (.inr (.inr r4)), none, none] [.inl i6, .inr (.inr r5)] H = _
    refine Eq.trans (e1 hG PT_83 k83_29 _ _ _) ?_
    refine bdc fun r7 => ?_
    show G 83 30 [some (.inr (.inr x0)), some (.inr (.inr r4)), none, none] [.inr (.inr r7)] H = _
    refine Eq.trans (e1 hG PT_83 k83_30 _ _ _) ?_
    show G 83 31 [some (.inr (.inr x0)), some (.inr (.inr r4)), some (.inr (.inr r7)), none] [] H = _
    refine Eq.trans (e1 hG PT_83 k83_31 _ _ _) ?_
    show G 83 32 [some (.inr (.inr x0)), some (.inr (.inr r4)), some (.inr (.inr r7)), none] [.inr (.inr x0)] H = _
    refine Eq.trans (e1 hG PT_83 k83_32 _ _ _) ?_
    show G 83 33 [some (.inr (.inr x0)), some (.inr (.inr r4)), some (.inr (.inr r7)), none] [.inr (.inr x0), .inr (.inr x0)] H = _
    refine Eq.trans (e1 hG PT_83 k83_33 _ _ _) ?_
    refine bdc fun i8 => ?_
    show G 83 36 [some (.inr (.inr x0)), some (.inr (.inr r4)), some (.inr (.inr r7)), none] [.inl i8, .inr (.inr x0)] H = _
    refine Eq.trans (e1 hG PT_83 k83_36 _ _ _) ?_
    show G 83 37 [some (.inr (.inr x0)), some (.inr (.inr r4)), some (.inr (.inr r7)), none] [.inl 2, .inl i8, .inr (.inr x0)] H = _
    refine Eq.trans (e1 hG PT_83 k83_37 _ _ _) ?_
    show G 83 38 [some (.inr (.inr x0)), some (.inr (.inr r4)), some (.inr (.inr r7)), none] [.inl (i8 - 2), .inr (.inr x0)] H = _
    refine Eq.trans (e1 hG PT_83 k83_38 _ _ _) ?_
    refine bdc fun H9 => ?_
    show G 83 41 [some (.inr (.inr x0)), some (.inr (.inr r4)), some (.inr (.inr r7)), none] [] H9 = _
    refine Eq.trans (e1 hG PT_83 k83_41 _ _ _) ?_
    show G 83 42 [some (.inr (.inr x0)), some (.inr (.inr r4)), some (.inr (.inr r7)), none] [.inl 0] H9 = _
    refine Eq.trans (e1 hG PT_83 k83_42 _ _ _) ?_
    rfl
  · show G 83 8 [some (.inr (.inr x0)), none, none, none] [] H = _
    exact e1 hG PT_83 k83_8 _ _ _
theorem b83_43 {G : AG} (hG : FIX G) (x0 : Nat) (x1 : Nat) (x2 : Nat) (x3 : Int32) (H : Hp) : G 83 43 [some (.inr (.inr x0)), some (.inr (.inr x1)), some (.inr (.inr x2)), some (.inl x3)] [] H = (bif decide ((252 : Int32) ≤ (x3 : Int32)) then (hgR H x0 17).bind fun r1 => (hAJ H r1 0).bind fun j2 => (hSJ H r1 0 ((j2 + 8640))).bind fun H3 => bif Nat.beq (H3.1 x0).1 6 then (G 82 0 [some (.inr (.inr x0)), none, none, none] [] H3).bind fun u4 => (asV u4.1).bind fun _ => some (none, u4.2) else none else (hgR H x0 17).bind fun r5 => (hgI H x0 19).bind fun i6 => bif decide ((i6 : Int32) ≠ (1 : Int32)) then (hAJ H x1 x3).bind fun j7 => (hAJ H x2 x3).bind fun j8 => G 83 84 [some (.inr (.inr x0)), some (.inr (.inr x1)), some (.inr (.inr x2)), some (.inl x3)] [.inr (.inl (if j8 < j7 then j8 else j7)), .inl x3, .inr (.inr r5)] H else (hAJ H x1 x3).bind fun j9 => (hAJ H x2 x3).bind fun j10 => G 83 84 [some (.inr (.inr x0)), some (.inr (.inr x1)), some (.inr (.inr x2)), some (.inl x3)] [.inr (.inl (if j10 < j9 then j9 else j10)), .inl x3, .inr (.inr r5)] H) := by
  refine Eq.trans (e1 hG PT_83 k83_43 _ _ _) ?_
  show G 83 44 [some (.inr (.inr x0)), some (.inr (.inr x1)), some (.inr (.inr x2)), some (.inl x3)] [.inl x3] H = _
  refine Eq.trans (e1 hG PT_83 k83_44 _ _ _) ?_
  show G 83 47 [some (.inr (.inr x0)), some (.inr (.inr x1)), some (.inr (.inr x2)), some (.inl x3)] [.inl 252, .inl x3] H = _
  refine Eq.trans (e1 hG PT_83 k83_47 _ _ _) ?_
  refine bfc ?_ ?_
  · show G 83 91 [some (.inr (.inr x0)), some (.inr (.inr x1)), some (.inr (.inr x2)), some (.inl x3)] [] H = _
    refine Eq.trans (e1 hG PT_83 k83_91 _ _ _) ?_
    show G 83 92 [some (.inr (.inr x0)), some (.inr (.inr x1)), some (.inr (.inr x2)), some (.inl x3)] [.inr (.inr x0)] H = _
    refine Eq.trans (e1 hG PT_83 k83_92 _ _ _) ?_
    refine bdc fun r1 => ?_
    show G 83 95 [some (.inr (.inr x0)), some (.inr (.inr x1)), some (.inr (.inr x2)), some (.inl x3)] [.inr (.inr r1)] H = _
    refine Eq.trans (e1 hG PT_83 k83_95 _ _ _) ?_
    show G 83 96 [some (.inr (.inr x0)), some (.inr (.inr x1)), some (.inr (.inr x2)), some (.inl x3)] [.inl 0, .inr (.inr r1)] H = _
    refine Eq.trans (e1 hG PT_83 k83_96 _ _ _) ?_
    show G 83 97 [some (.inr (.inr x0)), some (.inr (.inr x1)), some (.inr (.inr x2)), some (.inl x3)] [.inl 0, .inr (.inr r1), .inl 0, .inr (.inr r1)] H = _
    refine Eq.trans (e1 hG PT_83 k83_97 _ _ _) ?_
    refine bdc fun j2 => ?_
    show G 83 98 [some (.inr (.inr x0)), some (.inr (.inr x1)), some (.inr (.inr x2)), some (.inl x3)] [.inr (.inl j2), .inl 0, .inr (.inr r1)] H = _
    refine Eq.trans (e1 hG PT_83 k83_98 _ _ _) ?_
    show G 83 101 [some (.inr (.inr x0)), some (.inr (.inr x1)), some (.inr (.inr x2)), some (.inl x3)] [.inr (.inl 8640), .inr (.inl j2), .inl 0, .inr (.inr r1)] H = _
    refine Eq.trans (e1 hG PT_83 k83_101 _ _ _) ?_
    show G 83 102 [some (.inr (.inr x0)), some (.inr (.inr x1)), some (.inr (.inr x2)), some (.inl x3)] [.inr (.inl (j2 + 8640)), .inl 0, .inr (.inr r1)] H = _
    refine Eq.trans (e1 hG PT_83 k83_102 _ _ _) ?_
    refine bdc fun H3 => ?_
    show G 83 103 [some (.inr (.inr x0)), some (.inr (.inr x1)), some (.inr (.inr x2)), some (.inl x3)] [] H3 = _
    refine Eq.trans (e1 hG PT_83 k83_103 _ _ _) ?_
    show G 83 104 [some (.inr (.inr x0)), some (.inr (.inr x1)), some (.inr (.inr x2)), some (.inl x3)] [.inr (.inr x0)] H3 = _
    refine Eq.trans (e1 hG PT_83 k83_104 _ _ _) ?_
    refine bfc ?_ ?_
    · refine bdc fun u4 => ?_
      refine bdc fun _ => ?_
      show G 83 107 [some (.inr (.inr x0)), some (.inr (.inr x1)), some (.inr (.inr x2)), some (.inl x3)] [] u4.2 = _
      exact e1 hG PT_83 k83_107 _ _ _
    · rfl
  · show G 83 50 [some (.inr (.inr x0)), some (.inr (.inr x1)), some (.inr (.inr x2)), some (.inl x3)] [] H = _
    refine Eq.trans (e1 hG PT_83 k83_50 _ _ _) ?_
    show G 83 51 [some (.inr (.inr x0)), some (.inr (.inr x1)), some (.inr (.inr x2)), some (.inl x3)] [.inr (.inr x0)] H = _
    refine Eq.trans (e1 hG PT_83 k83_51 _ _ _) ?_
    refine bdc fun r5 => ?_
    show G 83 54 [some (.inr (.inr x0)), some (.inr (.inr x1)), some (.inr (.inr x2)), some (.inl x3)] [.inr (.inr r5)] H = _
    refine Eq.trans (e1 hG PT_83 k83_54 _ _ _) ?_
    show G 83 55 [some (.inr (.inr x0)), some (.inr (.inr x1)), some (.inr (.inr x2)), some (.inl x3)] [.inl x3, .inr (.inr r5)] H = _
    refine Eq.trans (e1 hG PT_83 k83_55 _ _ _) ?_
    show G 83 56 [some (.inr (.inr x0)), some (.inr (.inr x1)), some (.inr (.inr x2)), some (.inl x3)] [.inr (.inr x0), .inl x3, .inr (.inr r5)] H = _
    refine Eq.trans (e1 hG PT_83 k83_56 _ _ _) ?_
    refine bdc fun i6 => ?_
    show G 83 59 [some (.inr (.inr x0)), some (.inr (.inr x1)), some (.inr (.inr x2)), some (.inl x3)] [.inl i6, .inl x3, .inr (.inr r5)] H = _
    refine Eq.trans (e1 hG PT_83 k83_59 _ _ _) ?_
    show G 83 60 [some (.inr (.inr x0)), some (.inr (.inr x1)), some (.inr (.inr x2)), some (.inl x3)] [.inl 1, .inl i6, .inl x3, .inr (.inr r5)] H = _
    refine Eq.trans (e1 hG PT_83 k83_60 _ _ _) ?_
    refine bfc ?_ ?_
    · show G 83 75 [some (.inr (.inr x0)), some (.inr (.inr x1)), some (.inr (.inr x2)), some (.inl x3)] [.inl x3, .inr (.inr r5)] H = _
      refine Eq.trans (e1 hG PT_83 k83_75 _ _ _) ?_
      show G 83 76 [some (.inr (.inr x0)), some (.inr (.inr x1)), some (.inr (.inr x2)), some (.inl x3)] [.inr (.inr x1), .inl x3, .inr (.inr r5)] H = _
      refine Eq.trans (e1 hG PT_83 k83_76 _ _ _) ?_
      show G 83 77 [some (.inr (.inr x0)), some (.inr (.inr x1)), some (.inr (.inr x2)), some (.inl x3)] [.inl x3, .inr (.inr x1), .inl x3, .inr (.inr r5)] H = _
      refine Eq.trans (e1 hG PT_83 k83_77 _ _ _) ?_
      refine bdc fun j7 => ?_
      show G 83 78 [some (.inr (.inr x0)), some (.inr (.inr x1)), some (.inr (.inr x2)), some (.inl x3)] [.inr (.inl j7), .inl x3, .inr (.inr r5)] H = _
      refine Eq.trans (e1 hG PT_83 k83_78 _ _ _) ?_
      show G 83 79 [some (.inr (.inr x0)), some (.inr (.inr x1)), some (.inr (.inr x2)), some (.inl x3)] [.inr (.inr x2), .inr (.inl j7), .inl x3, .inr (.inr r5)] H = _
      refine Eq.trans (e1 hG PT_83 k83_79 _ _ _) ?_
      show G 83 80 [some (.inr (.inr x0)), some (.inr (.inr x1)), some (.inr (.inr x2)), some (.inl x3)] [.inl x3, .inr (.inr x2), .inr (.inl j7), .inl x3, .inr (.inr r5)] H = _
      refine Eq.trans (e1 hG PT_83 k83_80 _ _ _) ?_
      refine bdc fun j8 => ?_
      show G 83 81 [some (.inr (.inr x0)), some (.inr (.inr x1)), some (.inr (.inr x2)), some (.inl x3)] [.inr (.inl j8), .inr (.inl j7), .inl x3, .inr (.inr r5)] H = _
      refine Eq.trans (e1 hG PT_83 k83_81 _ _ _) ?_
      rfl
    · show G 83 63 [some (.inr (.inr x0)), some (.inr (.inr x1)), some (.inr (.inr x2)), some (.inl x3)] [.inl x3, .inr (.inr r5)] H = _
      refine Eq.trans (e1 hG PT_83 k83_63 _ _ _) ?_
      show G 83 64 [some (.inr (.inr x0)), some (.inr (.inr x1)), some (.inr (.inr x2)), some (.inl x3)] [.inr (.inr x1), .inl x3, .inr (.inr r5)] H = _
      refine Eq.trans (e1 hG PT_83 k83_64 _ _ _) ?_
      show G 83 65 [some (.inr (.inr x0)), some (.inr (.inr x1)), some (.inr (.inr x2)), some (.inl x3)] [.inl x3, .inr (.inr x1), .inl x3, .inr (.inr r5)] H = _
      refine Eq.trans (e1 hG PT_83 k83_65 _ _ _) ?_
      refine bdc fun j9 => ?_
      show G 83 66 [some (.inr (.inr x0)), some (.inr (.inr x1)), some (.inr (.inr x2)), some (.inl x3)] [.inr (.inl j9), .inl x3, .inr (.inr r5)] H = _
      refine Eq.trans (e1 hG PT_83 k83_66 _ _ _) ?_
      show G 83 67 [some (.inr (.inr x0)), some (.inr (.inr x1)), some (.inr (.inr x2)), some (.inl x3)] [.inr (.inr x2), .inr (.inl j9), .inl x3, .inr (.inr r5)] H = _
      refine Eq.trans (e1 hG PT_83 k83_67 _ _ _) ?_
      show G 83 68 [some (.inr (.inr x0)), some (.inr (.inr x1)), some (.inr (.inr x2)), some (.inl x3)] [.inl x3, .inr (.inr x2), .inr (.inl j9), .inl x3, .inr (.inr r5)] H = _
      refine Eq.trans (e1 hG PT_83 k83_68 _ _ _) ?_
      refine bdc fun j10 => ?_
      show G 83 69 [some (.inr (.inr x0)), some (.inr (.inr x1)), some (.inr (.inr x2)), some (.inl x3)] [.inr (.inl j10), .inr (.inl j9), .inl x3, .inr (.inr r5)] H = _
      refine Eq.trans (e1 hG PT_83 k83_69 _ _ _) ?_
      show G 83 72 [some (.inr (.inr x0)), some (.inr (.inr x1)), some (.inr (.inr x2)), some (.inl x3)] [.inr (.inl (if j10 < j9 then j9 else j10)), .inl x3, .inr (.inr r5)] H = _
      refine Eq.trans (e1 hG PT_83 k83_72 _ _ _) ?_
      rfl
theorem b83_84 {G : AG} (hG : FIX G) (x0 : Nat) (x1 : Nat) (x2 : Nat) (x3 : Int32) (s0 : Int64) (s1 : Int32) (s2 : Nat) (H : Hp) : G 83 84 [some (.inr (.inr x0)), some (.inr (.inr x1)), some (.inr (.inr x2)), some (.inl x3)] [.inr (.inl s0), .inl s1, .inr (.inr s2)] H = ((hSJ H s2 s1 s0).bind fun H1 => G 83 43 [some (.inr (.inr x0)), some (.inr (.inr x1)), some (.inr (.inr x2)), some (.inl (x3 + 1))] [] H1) := by
  refine Eq.trans (e1 hG PT_83 k83_84 _ _ _) ?_
  refine bdc fun H1 => ?_
  show G 83 85 [some (.inr (.inr x0)), some (.inr (.inr x1)), some (.inr (.inr x2)), some (.inl x3)] [] H1 = _
  refine Eq.trans (e1 hG PT_83 k83_85 _ _ _) ?_
  show G 83 88 [some (.inr (.inr x0)), some (.inr (.inr x1)), some (.inr (.inr x2)), some (.inl (x3 + 1))] [] H1 = _
  refine Eq.trans (e1 hG PT_83 k83_88 _ _ _) ?_
  rfl
-- StepsAhead$Reckoner.takeLoop(LStepsAhead$Loop;)V
theorem PT_86 : PT 86 = pt86 := rfl
theorem k86_0 : lkp pt86 0 = iP 1 (fAld 0) := rfl
theorem k86_1 : lkp pt86 1 = iRI 4 (gtI 16) := rfl
theorem k86_4 : lkp pt86 4 = iP 5 (fK (.inl 1)) := rfl
theorem k86_5 : lkp pt86 5 = iB 8 9 (b2 (fun x y => decide (y ≤ x))) := rfl
theorem k86_8 : lkp pt86 8 = iRet rV := rfl
theorem k86_9 : lkp pt86 9 = iP 10 (fAld 0) := rfl
theorem k86_10 : lkp pt86 10 = iRR 13 (gtR 15) := rfl
theorem k86_13 : lkp pt86 13 = iP 14 (fAld 0) := rfl
theorem k86_14 : lkp pt86 14 = iRI 17 (gtI 16) := rfl
theorem k86_17 : lkp pt86 17 = iRR 18 qAR := rfl
theorem k86_18 : lkp pt86 18 = iP 19 (fAst 2) := rfl
theorem k86_19 : lkp pt86 19 = iP 20 (fAld 0) := rfl
theorem k86_20 : lkp pt86 20 = iP 21 fDup := rfl
theorem k86_21 : lkp pt86 21 = iRI 24 (gtI 16) := rfl
theorem k86_24 : lkp pt86 24 = iP 25 (fK (.inl 1)) := rfl
theorem k86_25 : lkp pt86 25 = iP 26 (f2I (fun x y => x - y)) := rfl
theorem k86_26 : lkp pt86 26 = iW 29 (ptI 16) := rfl
theorem k86_29 : lkp pt86 29 = iP 30 (fAld 2) := rfl
theorem k86_30 : lkp pt86 30 = iP 31 (fK (.inl 0)) := rfl
theorem k86_31 : lkp pt86 31 = iP 32 fDup2 := rfl
theorem k86_32 : lkp pt86 32 = iRJ 33 qAJ := rfl
theorem k86_33 : lkp pt86 33 = iP 36 (fK (.inr (.inl 8640))) := rfl
theorem k86_36 : lkp pt86 36 = iP 37 (f2J (fun x y => x + y)) := rfl
theorem k86_37 : lkp pt86 37 = iW 38 wAJ := rfl
theorem k86_38 : lkp pt86 38 = iP 39 (fAld 2) := rfl
theorem k86_39 : lkp pt86 39 = iC 42 87 3 1 1 := rfl
theorem k86_42 : lkp pt86 42 = iP 43 (fIst 3) := rfl
theorem k86_43 : lkp pt86 43 = iP 44 (fAld 0) := rfl
theorem k86_44 : lkp pt86 44 = iRR 47 (gtR 17) := rfl
theorem k86_47 : lkp pt86 47 = iP 48 (fK (.inr (.inl 0))) := rfl
theorem k86_48 : lkp pt86 48 = iC 51 73 5 2 0 := rfl
theorem k86_51 : lkp pt86 51 = iP 52 (fAld 1) := rfl
theorem k86_52 : lkp pt86 52 = iCK 55 3 88 2 1 1 := rfl
theorem k86_55 : lkp pt86 55 = iB 58 68 (b1 (fun x => decide (x = 0))) := rfl
theorem k86_58 : lkp pt86 58 = iP 59 (fAld 0) := rfl
theorem k86_59 : lkp pt86 59 = iP 60 (fAld 2) := rfl
theorem k86_60 : lkp pt86 60 = iP 61 (fIld 3) := rfl
theorem k86_61 : lkp pt86 61 = iP 62 (fAld 1) := rfl
theorem k86_62 : lkp pt86 62 = iCK 65 6 89 9 4 0 := rfl
theorem k86_65 : lkp pt86 65 = iP 88 fGo := rfl
theorem k86_68 : lkp pt86 68 = iP 69 (fIld 3) := rfl
theorem k86_69 : lkp pt86 69 = iP 70 (fK (.inl 5)) := rfl
theorem k86_70 : lkp pt86 70 = iB 73 81 (b2 (fun x y => decide (x ≠ y))) := rfl
theorem k86_73 : lkp pt86 73 = iP 74 (fAld 0) := rfl
theorem k86_74 : lkp pt86 74 = iP 75 (fK (.inl 1)) := rfl
theorem k86_75 : lkp pt86 75 = iW 78 (ptZ 20) := rfl
theorem k86_78 : lkp pt86 78 = iP 88 fGo := rfl
theorem k86_81 : lkp pt86 81 = iP 82 (fAld 0) := rfl
theorem k86_82 : lkp pt86 82 = iP 83 (fAld 2) := rfl
theorem k86_83 : lkp pt86 83 = iP 84 (fIld 3) := rfl
theorem k86_84 : lkp pt86 84 = iP 85 (fAld 1) := rfl
theorem k86_85 : lkp pt86 85 = iCK 88 6 93 7 4 0 := rfl
theorem k86_88 : lkp pt86 88 = iP 89 (fAld 0) := rfl
theorem k86_89 : lkp pt86 89 = iCK 92 6 82 4 1 0 := rfl
theorem k86_92 : lkp pt86 92 = iRet rV := rfl
theorem b86_0 {G : AG} (hG : FIX G) (x0 : Nat) (x1 : Nat) (H : Hp) : G 86 0 [some (.inr (.inr x0)), some (.inr (.inr x1)), none, none] [] H = ((hgI H x0 16).bind fun i1 => bif decide ((1 : Int32) ≤ (i1 : Int32)) then (hgR H x0 15).bind fun r2 => (hgI H x0 16).bind fun i3 => (hAR H r2 i3).bind fun r4 => (hgI H x0 16).bind fun i5 => (hpI H x0 16 ((i5 - 1))).bind fun H6 => (hAJ H6 r4 0).bind fun j7 => (hSJ H6 r4 0 ((j7 + 8640))).bind fun H8 => (G 87 0 [some (.inr (.inr r4)), none, none] [] H8).bind fun u9 => (asI u9.1).bind fun i10 => (hgR u9.2 x0 17).bind fun r11 => (G 73 0 [some (.inr (.inr r11)), some (.inr (.inl 0)), none, none, none] [] u9.2).bind fun u12 => (asV u12.1).bind fun _ => bif Nat.beq (u12.2.1 x1).1 3 then (G 88 0 [some (.inr (.inr x1)), none] [] u12.2).bind fun u13 => (asI u13.1).bind fun i14 => bif decide ((i14 : Int32) = 0) then bif decide ((i10 : Int32) ≠ (5 : Int32)) then bif Nat.beq (u13.2.1 x0).1 6 then (G 93 0 [some (.inr (.inr x0)), some (.inr (.inr r4)), some (.inl i10), some (.inr (.inr x1)), none, none, none] [] u13.2).bind fun u15 => (asV u15.1).bind fun _ => G 86 88 [some (.inr (.inr x0)), some (.inr (.inr x1)), some (.inr (.inr r4)), some (.inl i10)] [] u15.2 else none else (hpZ u13.2 x0 20 1).bind fun H16 => G 86 88 [some (.inr (.inr x0)), some (.inr (.inr x1)), some (.inr (.inr r4)), some (.inl i10)] [] H16 else bif Nat.beq (u13.2.1 x0).1 6 then (G 89 0 [some (.inr (.inr x0)), some (.inr (.inr r4)), some (.inl i10), some (.inr (.inr x1)), none, none, none, none, none] [] u13.2).bind fun u17 => (asV u17.1).bind fun _ => G 86 88 [some (.inr (.inr x0)), some (.inr (.inr x1)), some (.inr (.inr r4)), some (.inl i10)] [] u17.2 else none else none else some (none, H)) := by
  refine Eq.trans (e1 hG PT_86 k86_0 _ _ _) ?_
  show G 86 1 [some (.inr (.inr x0)), some (.inr (.inr x1)), none, none] [.inr (.inr x0)] H = _
  refine Eq.trans (e1 hG PT_86 k86_1 _ _ _) ?_
  refine bdc fun i1 => ?_
  show G 86 4 [some (.inr (.inr x0)), some (.inr (.inr x1)), none, none] [.inl i1] H = _
  refine Eq.trans (e1 hG PT_86 k86_4 _ _ _) ?_
  show G 86 5 [some (.inr (.inr x0)), some (.inr (.inr x1)), none, none] [.inl 1, .inl i1] H = _
  refine Eq.trans (e1 hG PT_86 k86_5 _ _ _) ?_
  refine bfc ?_ ?_
  · show G 86 9 [some (.inr (.inr x0)), some (.inr (.inr x1)), none, none] [] H = _
    refine Eq.trans (e1 hG PT_86 k86_9 _ _ _) ?_
    show G 86 10 [some (.inr (.inr x0)), some (.inr (.inr x1)), none, none] [.inr (.inr x0)] H = _
    refine Eq.trans (e1 hG PT_86 k86_10 _ _ _) ?_
    refine bdc fun r2 => ?_
    show G 86 13 [some (.inr (.inr x0)), some (.inr (.inr x1)), none, none] [.inr (.inr r2)] H = _
    refine Eq.trans (e1 hG PT_86 k86_13 _ _ _) ?_
    show G 86 14 [some (.inr (.inr x0)), some (.inr (.inr x1)), none, none] [.inr (.inr x0), .inr (.inr r2)] H = _
    refine Eq.trans (e1 hG PT_86 k86_14 _ _ _) ?_
    refine bdc fun i3 => ?_
    show G 86 17 [some (.inr (.inr x0)), some (.inr (.inr x1)), none, none] [.inl i3, .inr (.inr r2)] H = _
    refine Eq.trans (e1 hG PT_86 k86_17 _ _ _) ?_
    refine bdc fun r4 => ?_
    show G 86 18 [some (.inr (.inr x0)), some (.inr (.inr x1)), none, none] [.inr (.inr r4)] H = _
    refine Eq.trans (e1 hG PT_86 k86_18 _ _ _) ?_
    show G 86 19 [some (.inr (.inr x0)), some (.inr (.inr x1)), some (.inr (.inr r4)), none] [] H = _
    refine Eq.trans (e1 hG PT_86 k86_19 _ _ _) ?_
    show G 86 20 [some (.inr (.inr x0)), some (.inr (.inr x1)), some (.inr (.inr r4)), none] [.inr (.inr x0)] H = _
    refine Eq.trans (e1 hG PT_86 k86_20 _ _ _) ?_
    show G 86 21 [some (.inr (.inr x0)), some (.inr (.inr x1)), some (.inr (.inr r4)), none] [.inr (.inr x0), .inr (.inr x0)] H = _
    refine Eq.trans (e1 hG PT_86 k86_21 _ _ _) ?_
    refine bdc fun i5 => ?_
    show G 86 24 [some (.inr (.inr x0)), some (.inr (.inr x1)), some (.inr (.inr r4)), none] [.inl i5, .inr (.inr x0)] H = _
    refine Eq.trans (e1 hG PT_86 k86_24 _ _ _) ?_
    show G 86 25 [some (.inr (.inr x0)), some (.inr (.inr x1)), some (.inr (.inr r4)), none] [.inl 1, .inl i5, .inr (.inr x0)] H = _
    refine Eq.trans (e1 hG PT_86 k86_25 _ _ _) ?_
    show G 86 26 [some (.inr (.inr x0)), some (.inr (.inr x1)), some (.inr (.inr r4)), none] [.inl (i5 - 1), .inr (.inr x0)] H = _
    refine Eq.trans (e1 hG PT_86 k86_26 _ _ _) ?_
    refine bdc fun H6 => ?_
    show G 86 29 [some (.inr (.inr x0)), some (.inr (.inr x1)), some (.inr (.inr r4)), none] [] H6 = _
    refine Eq.trans (e1 hG PT_86 k86_29 _ _ _) ?_
    show G 86 30 [some (.inr (.inr x0)), some (.inr (.inr x1)), some (.inr (.inr r4)), none] [.inr (.inr r4)] H6 = _
    refine Eq.trans (e1 hG PT_86 k86_30 _ _ _) ?_
    show G 86 31 [some (.inr (.inr x0)), some (.inr (.inr x1)), some (.inr (.inr r4)), none] [.inl 0, .inr (.inr r4)] H6 = _
    refine Eq.trans (e1 hG PT_86 k86_31 _ _ _) ?_
    show G 86 32 [some (.inr (.inr x0)), some (.inr (.inr x1)), some (.inr (.inr r4)), none] [.inl 0, .inr (.inr r4), .inl 0, .inr (.inr r4)] H6 = _
    refine Eq.trans (e1 hG PT_86 k86_32 _ _ _) ?_
    refine bdc fun j7 => ?_
    show G 86 33 [some (.inr (.inr x0)), some (.inr (.inr x1)), some (.inr (.inr r4)), none] [.inr (.inl j7), .inl 0, .inr (.inr r4)] H6 = _
    refine Eq.trans (e1 hG PT_86 k86_33 _ _ _) ?_
    show G 86 36 [some (.inr (.inr x0)), some (.inr (.inr x1)), some (.inr (.inr r4)), none] [.inr (.inl 8640), .inr (.inl j7), .inl 0, .inr (.inr r4)] H6 = _
    refine Eq.trans (e1 hG PT_86 k86_36 _ _ _) ?_
    show G 86 37 [some (.inr (.inr x0)), some (.inr (.inr x1)), some (.inr (.inr r4)), none] [.inr (.inl (j7 + 8640)), .inl 0, .inr (.inr r4)] H6 = _
    refine Eq.trans (e1 hG PT_86 k86_37 _ _ _) ?_
    refine bdc fun H8 => ?_
    show G 86 38 [some (.inr (.inr x0)), some (.inr (.inr x1)), some (.inr (.inr r4)), none] [] H8 = _
    refine Eq.trans (e1 hG PT_86 k86_38 _ _ _) ?_
    show G 86 39 [some (.inr (.inr x0)), some (.inr (.inr x1)), some (.inr (.inr r4)), none] [.inr (.inr r4)] H8 = _
    refine Eq.trans (e1 hG PT_86 k86_39 _ _ _) ?_
    refine bdc fun u9 => ?_
    refine bdc fun i10 => ?_
    show G 86 42 [some (.inr (.inr x0)), some (.inr (.inr x1)), some (.inr (.inr r4)), none] [.inl i10] u9.2 = _
    refine Eq.trans (e1 hG PT_86 k86_42 _ _ _) ?_
    show G 86 43 [some (.inr (.inr x0)), some (.inr (.inr x1)), some (.inr (.inr r4)), some (.inl i10)] [] u9.2 = _
    refine Eq.trans (e1 hG PT_86 k86_43 _ _ _) ?_
    show G 86 44 [some (.inr (.inr x0)), some (.inr (.inr x1)), some (.inr (.inr r4)), some (.inl i10)] [.inr (.inr x0)] u9.2 = _
    refine Eq.trans (e1 hG PT_86 k86_44 _ _ _) ?_
    refine bdc fun r11 => ?_
    show G 86 47 [some (.inr (.inr x0)), some (.inr (.inr x1)), some (.inr (.inr r4)), some (.inl i10)] [.inr (.inr r11)] u9.2 = _
    refine Eq.trans (e1 hG PT_86 k86_47 _ _ _) ?_
    show G 86 48 [some (.inr (.inr x0)), some (.inr (.inr x1)), some (.inr (.inr r4)), some (.inl i10)] [.inr (.inl 0), .inr (.inr r11)] u9.2 = _
    refine Eq.trans (e1 hG PT_86 k86_48 _ _ _) ?_
    refine bdc fun u12 => ?_
    refine bdc fun _ => ?_
    show G 86 51 [some (.inr (.inr x0)), some (.inr (.inr x1)), some (.inr (.inr r4)), some (.inl i10)] [] u12.2 = _
    refine Eq.trans (e1 hG PT_86 k86_51 _ _ _) ?_
    show G 86 52 [some (.inr (.inr x0)), some (.inr (.inr x1)), some (.inr (.inr r4)), some (.inl i10)] [.inr (.inr x1)] u12.2 = _
    refine Eq.trans (e1 hG PT_86 k86_52 _ _ _) ?_
    refine bfc ?_ ?_
    · refine bdc fun u13 => ?_
      refine bdc fun i14 => ?_
      show G 86 55 [some (.inr (.inr x0)), some (.inr (.inr x1)), some (.inr (.inr r4)), some (.inl i10)] [.inl i14] u13.2 = _
      refine Eq.trans (e1 hG PT_86 k86_55 _ _ _) ?_
      refine bfc ?_ ?_
      · show G 86 68 [some (.inr (.inr x0)), some (.inr (.inr x1)), some (.inr (.inr r4)), some (.inl i10)] [] u13.2 = _
        refine Eq.trans (e1 hG PT_86 k86_68 _ _ _) ?_
        show G 86 69 [some (.inr (.inr x0)), some (.inr (.inr x1)), some (.inr (.inr r4)), some (.inl i10)] [.inl i10] u13.2 = _
        refine Eq.trans (e1 hG PT_86 k86_69 _ _ _) ?_
        show G 86 70 [some (.inr (.inr x0)), some (.inr (.inr x1)), some (.inr (.inr r4)), some (.inl i10)] [.inl 5, .inl i10] u13.2 = _
        refine Eq.trans (e1 hG PT_86 k86_70 _ _ _) ?_
        refine bfc ?_ ?_
        · show G 86 81 [some (.inr (.inr x0)), some (.inr (.inr x1)), some (.inr (.inr r4)), some (.inl i10)] [] u13.2 = _
          refine Eq.trans (e1 hG PT_86 k86_81 _ _ _) ?_
          show G 86 82 [some (.inr (.inr x0)), some (.inr (.inr x1)), some (.inr (.inr r4)), some (.inl i10)] [.inr (.inr x0)] u13.2 = _
          refine Eq.trans (e1 hG PT_86 k86_82 _ _ _) ?_
          show G 86 83 [some (.inr (.inr x0)), some (.inr (.inr x1)), some (.inr (.inr r4)), some (.inl i10)] [.inr (.inr r4), .inr (.inr x0)] u13.2 = _
          refine Eq.trans (e1 hG PT_86 k86_83 _ _ _) ?_
          show G 86 84 [some (.inr (.inr x0)), some (.inr (.inr x1)), some (.inr (.inr r4)), some (.inl i10)] [.inl i10, .inr (.inr r4), .inr (.inr x0)] u13.2 = _
          refine Eq.trans (e1 hG PT_86 k86_84 _ _ _) ?_
          show G 86 85 [some (.inr (.inr x0)), some (.inr (.inr x1)), some (.inr (.inr r4)), some (.inl i10)] [.inr (.inr x1), .inl i10, .inr (.inr r4), .inr (.inr x0)] u13.2 = _
          refine Eq.trans (e1 hG PT_86 k86_85 _ _ _) ?_
          refine bfc ?_ ?_
          · refine bdc fun u15 => ?_
            refine bdc fun _ => ?_
            rfl
          · rfl
        · show G 86 73 [some (.inr (.inr x0)), some (.inr (.inr x1)), some (.inr (.inr r4)), some (.inl i10)] [] u13.2 = _
          refine Eq.trans (e1 hG PT_86 k86_73 _ _ _) ?_
          show G 86 74 [some (.inr (.inr x0)), some (.inr (.inr x1)), some (.inr (.inr r4)), some (.inl i10)] [.inr (.inr x0)] u13.2 = _
          refine Eq.trans (e1 hG PT_86 k86_74 _ _ _) ?_
          show G 86 75 [some (.inr (.inr x0)), some (.inr (.inr x1)), some (.inr (.inr r4)), some (.inl i10)] [.inl 1, .inr (.inr x0)] u13.2 = _
          refine Eq.trans (e1 hG PT_86 k86_75 _ _ _) ?_
          refine bdc fun H16 => ?_
          show G 86 78 [some (.inr (.inr x0)), some (.inr (.inr x1)), some (.inr (.inr r4)), some (.inl i10)] [] H16 = _
          refine Eq.trans (e1 hG PT_86 k86_78 _ _ _) ?_
          rfl
      · show G 86 58 [some (.inr (.inr x0)), some (.inr (.inr x1)), some (.inr (.inr r4)), some (.inl i10)] [] u13.2 = _
        refine Eq.trans (e1 hG PT_86 k86_58 _ _ _) ?_
        show G 86 59 [some (.inr (.inr x0)), some (.inr (.inr x1)), some (.inr (.inr r4)), some (.inl i10)] [.inr (.inr x0)] u13.2 = _
        refine Eq.trans (e1 hG PT_86 k86_59 _ _ _) ?_
        show G 86 60 [some (.inr (.inr x0)), some (.inr (.inr x1)), some (.inr (.inr r4)), some (.inl i10)] [.inr (.inr r4), .inr (.inr x0)] u13.2 = _
        refine Eq.trans (e1 hG PT_86 k86_60 _ _ _) ?_
        show G 86 61 [some (.inr (.inr x0)), some (.inr (.inr x1)), some (.inr (.inr r4)), some (.inl i10)] [.inl i10, .inr (.inr r4), .inr (.inr x0)] u13.2 = _
        refine Eq.trans (e1 hG PT_86 k86_61 _ _ _) ?_
        show G 86 62 [some (.inr (.inr x0)), some (.inr (.inr x1)), some (.inr (.inr r4)), some (.inl i10)] [.inr (.inr x1), .inl i10, .inr (.inr r4), .inr (.inr x0)] u13.2 = _
        refine Eq.trans (e1 hG PT_86 k86_62 _ _ _) ?_
        refine bfc ?_ ?_
        · refine bdc fun u17 => ?_
          refine bdc fun _ => ?_
          show G 86 65 [some (.inr (.inr x0)), some (.inr (.inr x1)), some (.inr (.inr r4)), some (.inl i10)] [] u17.2 = _
          refine Eq.trans (e1 hG PT_86 k86_65 _ _ _) ?_
          rfl
        · rfl
    · rfl
  · show G 86 8 [some (.inr (.inr x0)), some (.inr (.inr x1)), none, none] [] H = _
    exact e1 hG PT_86 k86_8 _ _ _
theorem b86_88 {G : AG} (hG : FIX G) (x0 : Nat) (x1 : Nat) (x2 : Nat) (x3 : Int32) (H : Hp) : G 86 88 [some (.inr (.inr x0)), some (.inr (.inr x1)), some (.inr (.inr x2)), some (.inl x3)] [] H = (bif Nat.beq (H.1 x0).1 6 then (G 82 0 [some (.inr (.inr x0)), none, none, none] [] H).bind fun u1 => (asV u1.1).bind fun _ => some (none, u1.2) else none) := by
  refine Eq.trans (e1 hG PT_86 k86_88 _ _ _) ?_
  show G 86 89 [some (.inr (.inr x0)), some (.inr (.inr x1)), some (.inr (.inr x2)), some (.inl x3)] [.inr (.inr x0)] H = _
  refine Eq.trans (e1 hG PT_86 k86_89 _ _ _) ?_
  refine bfc ?_ ?_
  · refine bdc fun u1 => ?_
    refine bdc fun _ => ?_
    show G 86 92 [some (.inr (.inr x0)), some (.inr (.inr x1)), some (.inr (.inr x2)), some (.inl x3)] [] u1.2 = _
    exact e1 hG PT_86 k86_92 _ _ _
  · rfl
-- StepsAhead$Products.powersOf([J)I
theorem PT_87 : PT 87 = pt87 := rfl
theorem k87_0 : lkp pt87 0 = iP 3 (fK (.inl 251)) := rfl
theorem k87_3 : lkp pt87 3 = iP 4 (fIst 1) := rfl
theorem k87_4 : lkp pt87 4 = iP 5 (fIld 1) := rfl
theorem k87_5 : lkp pt87 5 = iB 8 22 (b1 (fun x => decide (x ≤ 0))) := rfl
theorem k87_8 : lkp pt87 8 = iP 9 (fAld 0) := rfl
theorem k87_9 : lkp pt87 9 = iP 10 (fIld 1) := rfl
theorem k87_10 : lkp pt87 10 = iRJ 11 qAJ := rfl
theorem k87_11 : lkp pt87 11 = iP 12 (fK (.inr (.inl 0))) := rfl
theorem k87_12 : lkp pt87 12 = iP 13 fLcmp := rfl
theorem k87_13 : lkp pt87 13 = iB 16 22 (b1 (fun x => decide (x ≠ 0))) := rfl
theorem k87_16 : lkp pt87 16 = iP 19 (fInc 1 (-1)) := rfl
theorem k87_19 : lkp pt87 19 = iP 4 fGo := rfl
theorem k87_22 : lkp pt87 22 = iP 23 (fK (.inl 0)) := rfl
theorem k87_23 : lkp pt87 23 = iP 24 (fIst 2) := rfl
theorem k87_24 : lkp pt87 24 = iP 25 (fIld 2) := rfl
theorem k87_25 : lkp pt87 25 = iP 26 (fK (.inl 5)) := rfl
theorem k87_26 : lkp pt87 26 = iB 29 44 (b2 (fun x y => decide (y ≤ x))) := rfl
theorem k87_29 : lkp pt87 29 = iP 30 (fIld 1) := rfl
theorem k87_30 : lkp pt87 30 = iP 33 (fK (.inr (.inr 2))) := rfl
theorem k87_33 : lkp pt87 33 = iP 34 (fIld 2) := rfl
theorem k87_34 : lkp pt87 34 = iRI 35 qAI := rfl
theorem k87_35 : lkp pt87 35 = iB 38 44 (b2 (fun x y => decide (x < y))) := rfl
theorem k87_38 : lkp pt87 38 = iP 41 (fInc 2 1) := rfl
theorem k87_41 : lkp pt87 41 = iP 24 fGo := rfl
theorem k87_44 : lkp pt87 44 = iP 45 (fIld 2) := rfl
theorem k87_45 : lkp pt87 45 = iRet rI := rfl
theorem b87_0 {G : AG} (hG : FIX G) (x0 : Nat) (H : Hp) : G 87 0 [some (.inr (.inr x0)), none, none] [] H = (G 87 4 [some (.inr (.inr x0)), some (.inl 251), none] [] H) := by
  refine Eq.trans (e1 hG PT_87 k87_0 _ _ _) ?_
  show G 87 3 [some (.inr (.inr x0)), none, none] [.inl 251] H = _
  refine Eq.trans (e1 hG PT_87 k87_3 _ _ _) ?_
  rfl
theorem b87_4 {G : AG} (hG : FIX G) (x0 : Nat) (x1 : Int32) (H : Hp) : G 87 4 [some (.inr (.inr x0)), some (.inl x1), none] [] H = (bif decide ((x1 : Int32) ≤ 0) then G 87 22 [some (.inr (.inr x0)), some (.inl x1), none] [] H else (hAJ H x0 x1).bind fun j1 => bif decide (((lg_cmp j1 0) : Int32) ≠ 0) then G 87 22 [some (.inr (.inr x0)), some (.inl x1), none] [] H else G 87 4 [some (.inr (.inr x0)), some (.inl (x1 + (-1))), none] [] H) := by
  refine Eq.trans (e1 hG PT_87 k87_4 _ _ _) ?_
  show G 87 5 [some (.inr (.inr x0)), some (.inl x1), none] [.inl x1] H = _
  refine Eq.trans (e1 hG PT_87 k87_5 _ _ _) ?_
  refine bfc ?_ ?_
  · rfl
  · show G 87 8 [some (.inr (.inr x0)), some (.inl x1), none] [] H = _
    refine Eq.trans (e1 hG PT_87 k87_8 _ _ _) ?_
    show G 87 9 [some (.inr (.inr x0)), some (.inl x1), none] [.inr (.inr x0)] H = _
    refine Eq.trans (e1 hG PT_87 k87_9 _ _ _) ?_
    show G 87 10 [some (.inr (.inr x0)), some (.inl x1), none] [.inl x1, .inr (.inr x0)] H = _
    refine Eq.trans (e1 hG PT_87 k87_10 _ _ _) ?_
    refine bdc fun j1 => ?_
    show G 87 11 [some (.inr (.inr x0)), some (.inl x1), none] [.inr (.inl j1)] H = _
    refine Eq.trans (e1 hG PT_87 k87_11 _ _ _) ?_
    show G 87 12 [some (.inr (.inr x0)), some (.inl x1), none] [.inr (.inl 0), .inr (.inl j1)] H = _
    refine Eq.trans (e1 hG PT_87 k87_12 _ _ _) ?_
    show G 87 13 [some (.inr (.inr x0)), some (.inl x1), none] [.inl (lg_cmp j1 0)] H = _
    refine Eq.trans (e1 hG PT_87 k87_13 _ _ _) ?_
    refine bfc ?_ ?_
    · rfl
    · show G 87 16 [some (.inr (.inr x0)), some (.inl x1), none] [] H = _
      refine Eq.trans (e1 hG PT_87 k87_16 _ _ _) ?_
      show G 87 19 [some (.inr (.inr x0)), some (.inl (x1 + (-1))), none] [] H = _
      refine Eq.trans (e1 hG PT_87 k87_19 _ _ _) ?_
      rfl
theorem b87_22 {G : AG} (hG : FIX G) (x0 : Nat) (x1 : Int32) (H : Hp) : G 87 22 [some (.inr (.inr x0)), some (.inl x1), none] [] H = (G 87 24 [some (.inr (.inr x0)), some (.inl x1), some (.inl 0)] [] H) := by
  refine Eq.trans (e1 hG PT_87 k87_22 _ _ _) ?_
  show G 87 23 [some (.inr (.inr x0)), some (.inl x1), none] [.inl 0] H = _
  refine Eq.trans (e1 hG PT_87 k87_23 _ _ _) ?_
  rfl
theorem b87_24 {G : AG} (hG : FIX G) (x0 : Nat) (x1 : Int32) (x2 : Int32) (H : Hp) : G 87 24 [some (.inr (.inr x0)), some (.inl x1), some (.inl x2)] [] H = (bif decide ((5 : Int32) ≤ (x2 : Int32)) then G 87 44 [some (.inr (.inr x0)), some (.inl x1), some (.inl x2)] [] H else (hAI H 2 x2).bind fun i1 => bif decide ((x1 : Int32) < (i1 : Int32)) then G 87 44 [some (.inr (.inr x0)), some (.inl x1), some (.inl x2)] [] H else G 87 24 [some (.inr (.inr x0)), some (.inl x1), some (.inl (x2 + 1))] [] H) := by
  refine Eq.trans (e1 hG PT_87 k87_24 _ _ _) ?_
  show G 87 25 [some (.inr (.inr x0)), some (.inl x1), some (.inl x2)] [.inl x2] H = _
  refine Eq.trans (e1 hG PT_87 k87_25 _ _ _) ?_
  show G 87 26 [some (.inr (.inr x0)), some (.inl x1), some (.inl x2)] [.inl 5, .inl x2] H = _
  refine Eq.trans (e1 hG PT_87 k87_26 _ _ _) ?_
  refine bfc ?_ ?_
  · rfl
  · show G 87 29 [some (.inr (.inr x0)), some (.inl x1), some (.inl x2)] [] H = _
    refine Eq.trans (e1 hG PT_87 k87_29 _ _ _) ?_
    show G 87 30 [some (.inr (.inr x0)), some (.inl x1), some (.inl x2)] [.inl x1] H = _
    refine Eq.trans (e1 hG PT_87 k87_30 _ _ _) ?_
    show G 87 33 [some (.inr (.inr x0)), some (.inl x1), some (.inl x2)] [.inr (.inr 2), .inl x1] H = _
    refine Eq.trans (e1 hG PT_87 k87_33 _ _ _) ?_
    show G 87 34 [some (.inr (.inr x0)), some (.inl x1), some (.inl x2)] [.inl x2, .inr (.inr 2), .inl x1] H = _
    refine Eq.trans (e1 hG PT_87 k87_34 _ _ _) ?_
    refine bdc fun i1 => ?_
    show G 87 35 [some (.inr (.inr x0)), some (.inl x1), some (.inl x2)] [.inl i1, .inl x1] H = _
    refine Eq.trans (e1 hG PT_87 k87_35 _ _ _) ?_
    refine bfc ?_ ?_
    · rfl
    · show G 87 38 [some (.inr (.inr x0)), some (.inl x1), some (.inl x2)] [] H = _
      refine Eq.trans (e1 hG PT_87 k87_38 _ _ _) ?_
      show G 87 41 [some (.inr (.inr x0)), some (.inl x1), some (.inl (x2 + 1))] [] H = _
      refine Eq.trans (e1 hG PT_87 k87_41 _ _ _) ?_
      rfl
theorem b87_44 {G : AG} (hG : FIX G) (x0 : Nat) (x1 : Int32) (x2 : Int32) (H : Hp) : G 87 44 [some (.inr (.inr x0)), some (.inl x1), some (.inl x2)] [] H = (some (some (.inl x2), H)) := by
  refine Eq.trans (e1 hG PT_87 k87_44 _ _ _) ?_
  show G 87 45 [some (.inr (.inr x0)), some (.inl x1), some (.inl x2)] [.inl x2] H = _
  exact e1 hG PT_87 k87_45 _ _ _
-- StepsAhead$Loop.hasFixedRounds()Z
theorem PT_88 : PT 88 = pt88 := rfl
theorem k88_0 : lkp pt88 0 = iP 1 (fK (.inl 0)) := rfl
theorem k88_1 : lkp pt88 1 = iP 2 (fIst 1) := rfl
theorem k88_2 : lkp pt88 2 = iP 3 (fIld 1) := rfl
theorem k88_3 : lkp pt88 3 = iP 4 (fK (.inl 2)) := rfl
theorem k88_4 : lkp pt88 4 = iP 5 (fAld 0) := rfl
theorem k88_5 : lkp pt88 5 = iRI 8 (gtI 3) := rfl
theorem k88_8 : lkp pt88 8 = iP 9 (f2I (fun x y => x + y)) := rfl
theorem k88_9 : lkp pt88 9 = iB 12 36 (b2 (fun x y => decide (y ≤ x))) := rfl
theorem k88_12 : lkp pt88 12 = iP 13 (fIld 1) := rfl
theorem k88_13 : lkp pt88 13 = iP 14 (fK (.inl 5)) := rfl
theorem k88_14 : lkp pt88 14 = iB 17 36 (b2 (fun x y => decide (y ≤ x))) := rfl
theorem k88_17 : lkp pt88 17 = iP 18 (fAld 0) := rfl
theorem k88_18 : lkp pt88 18 = iRR 21 (gtR 0) := rfl
theorem k88_21 : lkp pt88 21 = iP 22 (fK (.inl 1)) := rfl
theorem k88_22 : lkp pt88 22 = iP 23 (fIld 1) := rfl
theorem k88_23 : lkp pt88 23 = iP 24 (f2I (fun x y => x + y)) := rfl
theorem k88_24 : lkp pt88 24 = iRI 25 qAI := rfl
theorem k88_25 : lkp pt88 25 = iB 28 30 (b1 (fun x => decide (x = 0))) := rfl
theorem k88_28 : lkp pt88 28 = iP 29 (fK (.inl 0)) := rfl
theorem k88_29 : lkp pt88 29 = iRet rZ := rfl
theorem k88_30 : lkp pt88 30 = iP 33 (fInc 1 1) := rfl
theorem k88_33 : lkp pt88 33 = iP 2 fGo := rfl
theorem k88_36 : lkp pt88 36 = iP 37 (fK (.inl 1)) := rfl
theorem k88_37 : lkp pt88 37 = iRet rZ := rfl
theorem b88_0 {G : AG} (hG : FIX G) (x0 : Nat) (H : Hp) : G 88 0 [some (.inr (.inr x0)), none] [] H = (G 88 2 [some (.inr (.inr x0)), some (.inl 0)] [] H) := by
  refine Eq.trans (e1 hG PT_88 k88_0 _ _ _) ?_
  show G 88 1 [some (.inr (.inr x0)), none] [.inl 0] H = _
  refine Eq.trans (e1 hG PT_88 k88_1 _ _ _) ?_
  rfl
theorem b88_2 {G : AG} (hG : FIX G) (x0 : Nat) (x1 : Int32) (H : Hp) : G 88 2 [some (.inr (.inr x0)), some (.inl x1)] [] H = ((hgI H x0 3).bind fun i1 => bif decide (((2 + i1) : Int32) ≤ (x1 : Int32)) then G 88 36 [some (.inr (.inr x0)), some (.inl x1)] [] H else bif decide ((5 : Int32) ≤ (x1 : Int32)) then G 88 36 [some (.inr (.inr x0)), some (.inl x1)] [] H else (hgR H x0 0).bind fun r2 => (hAI H r2 ((1 + x1))).bind fun i3 => bif decide ((i3 : Int32) = 0) then G 88 2 [some (.inr (.inr x0)), some (.inl (x1 + 1))] [] H else retZ 0 H) := by
  refine Eq.trans (e1 hG PT_88 k88_2 _ _ _) ?_
  show G 88 3 [some (.inr (.inr x0)), some (.inl x1)] [.inl x1] H = _
  refine Eq.trans (e1 hG PT_88 k88_3 _ _ _) ?_
  show G 88 4 [some (.inr (.inr x0)), some (.inl x1)] [.inl 2, .inl x1] H = _
  refine Eq.trans (e1 hG PT_88 k88_4 _ _ _) ?_
  show G 88 5 [some (.inr (.inr x0)), some (.inl x1)] [.inr (.inr x0), .inl 2, .inl x1] H = _
  refine Eq.trans (e1 hG PT_88 k88_5 _ _ _) ?_
  refine bdc fun i1 => ?_
  show G 88 8 [some (.inr (.inr x0)), some (.inl x1)] [.inl i1, .inl 2, .inl x1] H = _
  refine Eq.trans (e1 hG PT_88 k88_8 _ _ _) ?_
  show G 88 9 [some (.inr (.inr x0)), some (.inl x1)] [.inl (2 + i1), .inl x1] H = _
  refine Eq.trans (e1 hG PT_88 k88_9 _ _ _) ?_
  refine bfc ?_ ?_
  · rfl
  · show G 88 12 [some (.inr (.inr x0)), some (.inl x1)] [] H = _
    refine Eq.trans (e1 hG PT_88 k88_12 _ _ _) ?_
    show G 88 13 [some (.inr (.inr x0)), some (.inl x1)] [.inl x1] H = _
    refine Eq.trans (e1 hG PT_88 k88_13 _ _ _) ?_
    show G 88 14 [some (.inr (.inr x0)), some (.inl x1)] [.inl 5, .inl x1] H = _
    refine Eq.trans (e1 hG PT_88 k88_14 _ _ _) ?_
    refine bfc ?_ ?_
    · rfl
    · show G 88 17 [some (.inr (.inr x0)), some (.inl x1)] [] H = _
      refine Eq.trans (e1 hG PT_88 k88_17 _ _ _) ?_
      show G 88 18 [some (.inr (.inr x0)), some (.inl x1)] [.inr (.inr x0)] H = _
      refine Eq.trans (e1 hG PT_88 k88_18 _ _ _) ?_
      refine bdc fun r2 => ?_
      show G 88 21 [some (.inr (.inr x0)), some (.inl x1)] [.inr (.inr r2)] H = _
      refine Eq.trans (e1 hG PT_88 k88_21 _ _ _) ?_
      show G 88 22 [some (.inr (.inr x0)), some (.inl x1)] [.inl 1, .inr (.inr r2)] H = _
      refine Eq.trans (e1 hG PT_88 k88_22 _ _ _) ?_
      show G 88 23 [some (.inr (.inr x0)), some (.inl x1)] [.inl x1, .inl 1, .inr (.inr r2)] H = _
      refine Eq.trans (e1 hG PT_88 k88_23 _ _ _) ?_
      show G 88 24 [some (.inr (.inr x0)), some (.inl x1)] [.inl (1 + x1), .inr (.inr r2)] H = _
      refine Eq.trans (e1 hG PT_88 k88_24 _ _ _) ?_
      refine bdc fun i3 => ?_
      show G 88 25 [some (.inr (.inr x0)), some (.inl x1)] [.inl i3] H = _
      refine Eq.trans (e1 hG PT_88 k88_25 _ _ _) ?_
      refine bfc ?_ ?_
      · show G 88 30 [some (.inr (.inr x0)), some (.inl x1)] [] H = _
        refine Eq.trans (e1 hG PT_88 k88_30 _ _ _) ?_
        show G 88 33 [some (.inr (.inr x0)), some (.inl (x1 + 1))] [] H = _
        refine Eq.trans (e1 hG PT_88 k88_33 _ _ _) ?_
        rfl
      · show G 88 28 [some (.inr (.inr x0)), some (.inl x1)] [] H = _
        refine Eq.trans (e1 hG PT_88 k88_28 _ _ _) ?_
        show G 88 29 [some (.inr (.inr x0)), some (.inl x1)] [.inl 0] H = _
        exact e1 hG PT_88 k88_29 _ _ _
theorem b88_36 {G : AG} (hG : FIX G) (x0 : Nat) (x1 : Int32) (H : Hp) : G 88 36 [some (.inr (.inr x0)), some (.inl x1)] [] H = (retZ 1 H) := by
  refine Eq.trans (e1 hG PT_88 k88_36 _ _ _) ?_
  show G 88 37 [some (.inr (.inr x0)), some (.inl x1)] [.inl 1] H = _
  exact e1 hG PT_88 k88_37 _ _ _
-- StepsAhead$Reckoner.sumFixed([JILStepsAhead$Loop;)V
theorem PT_89 : PT 89 = pt89 := rfl
theorem k89_0 : lkp pt89 0 = iP 1 (fAld 3) := rfl
theorem k89_1 : lkp pt89 1 = iCK 4 3 90 1 1 1 := rfl
theorem k89_4 : lkp pt89 4 = iP 6 (fIst 4) := rfl
theorem k89_6 : lkp pt89 6 = iP 7 (fIld 2) := rfl
theorem k89_7 : lkp pt89 7 = iC 10 79 1 1 1 := rfl
theorem k89_10 : lkp pt89 10 = iP 12 (fIst 5) := rfl
theorem k89_12 : lkp pt89 12 = iP 13 (fK (.inl 0)) := rfl
theorem k89_13 : lkp pt89 13 = iP 15 (fIst 6) := rfl
theorem k89_15 : lkp pt89 15 = iP 17 (fIld 6) := rfl
theorem k89_17 : lkp pt89 17 = iP 19 (fIld 5) := rfl
theorem k89_19 : lkp pt89 19 = iB 22 105 (b2 (fun x y => decide (y ≤ x))) := rfl
theorem k89_22 : lkp pt89 22 = iP 23 (fAld 0) := rfl
theorem k89_23 : lkp pt89 23 = iRR 26 (gtR 14) := rfl
theorem k89_26 : lkp pt89 26 = iP 28 (fIld 6) := rfl
theorem k89_28 : lkp pt89 28 = iP 30 (fIld 4) := rfl
theorem k89_30 : lkp pt89 30 = iCK 33 5 91 3 3 1 := rfl
theorem k89_33 : lkp pt89 33 = iB 36 99 (b1 (fun x => decide (x = 0))) := rfl
theorem k89_36 : lkp pt89 36 = iP 38 (fIld 6) := rfl
theorem k89_38 : lkp pt89 38 = iP 40 (fIst 7) := rfl
theorem k89_40 : lkp pt89 40 = iP 41 (fK (.inl 0)) := rfl
theorem k89_41 : lkp pt89 41 = iP 43 (fIst 8) := rfl
theorem k89_43 : lkp pt89 43 = iP 45 (fIld 8) := rfl
theorem k89_45 : lkp pt89 45 = iP 46 (fIld 2) := rfl
theorem k89_46 : lkp pt89 46 = iB 49 99 (b2 (fun x y => decide (y < x))) := rfl
theorem k89_49 : lkp pt89 49 = iP 51 (fIld 7) := rfl
theorem k89_51 : lkp pt89 51 = iB 54 99 (b1 (fun x => decide (x < 0))) := rfl
theorem k89_54 : lkp pt89 54 = iP 55 (fAld 0) := rfl
theorem k89_55 : lkp pt89 55 = iRR 58 (gtR 17) := rfl
theorem k89_58 : lkp pt89 58 = iP 60 (fIld 6) := rfl
theorem k89_60 : lkp pt89 60 = iP 61 fDup2 := rfl
theorem k89_61 : lkp pt89 61 = iRJ 62 qAJ := rfl
theorem k89_62 : lkp pt89 62 = iP 63 (fAld 1) := rfl
theorem k89_63 : lkp pt89 63 = iP 65 (fIld 7) := rfl
theorem k89_65 : lkp pt89 65 = iRJ 66 qAJ := rfl
theorem k89_66 : lkp pt89 66 = iP 68 (fIld 8) := rfl
theorem k89_68 : lkp pt89 68 = iP 69 (fAld 3) := rfl
theorem k89_69 : lkp pt89 69 = iRR 72 (gtR 0) := rfl
theorem k89_72 : lkp pt89 72 = iP 73 (fK (.inl 0)) := rfl
theorem k89_73 : lkp pt89 73 = iRI 74 qAI := rfl
theorem k89_74 : lkp pt89 74 = iC 77 92 8 2 2 := rfl
theorem k89_77 : lkp pt89 77 = iP 78 (f2J (fun x y => x * y)) := rfl
theorem k89_78 : lkp pt89 78 = iP 79 (f2J (fun x y => x + y)) := rfl
theorem k89_79 : lkp pt89 79 = iW 80 wAJ := rfl
theorem k89_80 : lkp pt89 80 = iP 81 (fAld 0) := rfl
theorem k89_81 : lkp pt89 81 = iRR 84 (gtR 14) := rfl
theorem k89_84 : lkp pt89 84 = iP 86 (fIld 7) := rfl
theorem k89_86 : lkp pt89 86 = iP 88 (fIld 4) := rfl
theorem k89_88 : lkp pt89 88 = iCK 91 5 8 3 3 1 := rfl
theorem k89_91 : lkp pt89 91 = iP 93 (fIst 7) := rfl
theorem k89_93 : lkp pt89 93 = iP 96 (fInc 8 1) := rfl
theorem k89_96 : lkp pt89 96 = iP 43 fGo := rfl
theorem k89_99 : lkp pt89 99 = iP 102 (fInc 6 1) := rfl
theorem k89_102 : lkp pt89 102 = iP 15 fGo := rfl
theorem k89_105 : lkp pt89 105 = iRet rV := rfl
theorem b89_0 {G : AG} (hG : FIX G) (x0 : Nat) (x1 : Nat) (x2 : Int32) (x3 : Nat) (H : Hp) : G 89 0 [some (.inr (.inr x0)), some (.inr (.inr x1)), some (.inl x2), some (.inr (.inr x3)), none, none, none, none, none] [] H = (bif Nat.beq (H.1 x3).1 3 then (G 90 0 [some (.inr (.inr x3))] [] H).bind fun u1 => (asI u1.1).bind fun i2 => (G 79 0 [some (.inl x2)] [] u1.2).bind fun u3 => (asI u3.1).bind fun i4 => G 89 15 [some (.inr (.inr x0)), some (.inr (.inr x1)), some (.inl x2), some (.inr (.inr x3)), some (.inl i2), some (.inl i4), some (.inl 0), none, none] [] u3.2 else none) := by
  refine Eq.trans (e1 hG PT_89 k89_0 _ _ _) ?_
  show G 89 1 [some (.inr (.inr x0)), some (.inr (.inr x1)), some (.inl x2), some (.inr (.inr x3)), none, none, none, none, none] [.inr (.inr x3)] H = _
  refine Eq.trans (e1 hG PT_89 k89_1 _ _ _) ?_
  refine bfc ?_ ?_
  · refine bdc fun u1 => ?_
    refine bdc fun i2 => ?_
    show G 89 4 [some (.inr (.inr x0)), some (.inr (.inr x1)), some (.inl x2), some (.inr (.inr x3)), none, none, none, none, none] [.inl i2] u1.2 = _
    refine Eq.trans (e1 hG PT_89 k89_4 _ _ _) ?_
    show G 89 6 [some (.inr (.inr x0)), some (.inr (.inr x1)), some (.inl x2), some (.inr (.inr x3)), some (.inl i2), none, none, none, none] [] u1.2 = _
    refine Eq.trans (e1 hG PT_89 k89_6 _ _ _) ?_
    show G 89 7 [some (.inr (.inr x0)), some (.inr (.inr x1)), some (.inl x2), some (.inr (.inr x3)), some (.inl i2), none, none, none, none] [.inl x2] u1.2 = _
    refine Eq.trans (e1 hG PT_89 k89_7 _ _ _) ?_
    refine bdc fun u3 => ?_
    refine bdc fun i4 => ?_
    show G 89 10 [some (.inr (.inr x0)), some (.inr (.inr x1)), some (.inl x2), some (.inr (.inr x3)), some (.inl i2), none, none, none, none] [.inl i4] u3.2 = _
    refine Eq.trans (e1 hG PT_89 k89_10 _ _ _) ?_
    show G 89 12 [some (.inr (.inr x0)), some (.inr (.inr x1)), some (.inl x2), some (.inr (.inr x3)), some (.inl i2), some (.inl i4), none, none, none] [] u3.2 = _
    refine Eq.trans (e1 hG PT_89 k89_12 _ _ _) ?_
    show G 89 13 [some (.inr (.inr x0)), some (.inr (.inr x1)), some (.inl x2), some (.inr (.inr x3)), some (.inl i2), some (.inl i4), none, none, none] [.inl 0] u3.2 = _
    refine Eq.trans (e1 hG PT_89 k89_13 _ _ _) ?_
    rfl
  · rfl
theorem b89_15 {G : AG} (hG : FIX G) (x0 : Nat) (x1 : Nat) (x2 : Int32) (x3 : Nat) (x4 : Int32) (x5 : Int32) (x6 : Int32) (o7 : Option AV) (o8 : Option AV) (H : Hp) : G 89 15 [some (.inr (.inr x0)), some (.inr (.inr x1)), some (.inl x2), some (.inr (.inr x3)), some (.inl x4), some (.inl x5), some (.inl x6), o7, o8] [] H = (bif decide ((x5 : Int32) ≤ (x6 : Int32)) then some (none, H) else (hgR H x0 14).bind fun r1 => bif Nat.beq (H.1 r1).1 5 then (G 91 0 [some (.inr (.inr r1)), some (.inl x6), some (.inl x4)] [] H).bind fun u2 => (asI u2.1).bind fun i3 => bif decide ((i3 : Int32) = 0) then G 89 99 [some (.inr (.inr x0)), some (.inr (.inr x1)), some (.inl x2), some (.inr (.inr x3)), some (.inl x4), some (.inl x5), some (.inl x6), o7, o8] [] u2.2 else G 89 43 [some (.inr (.inr x0)), some (.inr (.inr x1)), some (.inl x2), some (.inr (.inr x3)), some (.inl x4), some (.inl x5), some (.inl x6), some (.inl x6), some (.inl 0)] [] u2.2 else none) := by
  refine Eq.trans (e1 hG PT_89 k89_15 _ _ _) ?_
  show G 89 17 [some (.inr (.inr x0)), some (.inr (.inr x1)), some (.inl x2), some (.inr (.inr x3)), some (.inl x4), some (.inl x5), some (.inl x6), o7, o8] [.inl x6] H = _
  refine Eq.trans (e1 hG PT_89 k89_17 _ _ _) ?_
  show G 89 19 [some (.inr (.inr x0)), some (.inr (.inr x1)), some (.inl x2), some (.inr (.inr x3)), some (.inl x4), some (.inl x5), some (.inl x6), o7, o8] [.inl x5, .inl x6] H = _
  refine Eq.trans (e1 hG PT_89 k89_19 _ _ _) ?_
  refine bfc ?_ ?_
  · show G 89 105 [some (.inr (.inr x0)), some (.inr (.inr x1)), some (.inl x2), some (.inr (.inr x3)), some (.inl x4), some (.inl x5), some (.inl x6), o7, o8] [] H = _
    exact e1 hG PT_89 k89_105 _ _ _
  · show G 89 22 [some (.inr (.inr x0)), some (.inr (.inr x1)), some (.inl x2), some (.inr (.inr x3)), some (.inl x4), some (.inl x5), some (.inl x6), o7, o8] [] H = _
    refine Eq.trans (e1 hG PT_89 k89_22 _ _ _) ?_
    show G 89 23 [some (.inr (.inr x0)), some (.inr (.inr x1)), some (.inl x2), some (.inr (.inr x3)), some (.inl x4), some (.inl x5), some (.inl x6), o7, o8] [.inr (.inr x0)] H = _
    refine Eq.trans (e1 hG PT_89 k89_23 _ _ _) ?_
    refine bdc fun r1 => ?_
    show G 89 26 [some (.inr (.inr x0)), some (.inr (.inr x1)), some (.inl x2), some (.inr (.inr x3)), some (.inl x4), some (.inl x5), some (.inl x6), o7, o8] [.inr (.inr r1)] H = _
    refine Eq.trans (e1 hG PT_89 k89_26 _ _ _) ?_
    show G 89 28 [some (.inr (.inr x0)), some (.inr (.inr x1)), some (.inl x2), some (.inr (.inr x3)), some (.inl x4), some (.inl x5), some (.inl x6), o7, o8] [.inl x6, .inr (.inr r1)] H = _
    refine Eq.trans (e1 hG PT_89 k89_28 _ _ _) ?_
    show G 89 30 [some (.inr (.inr x0)), some (.inr (.inr x1)), some (.inl x2), some (.inr (.inr x3)), some (.inl x4), some (.inl x5), some (.inl x6), o7, o8] [.inl x4, .inl x6, .inr (.inr r1)] H = _
    refine Eq.trans (e1 hG PT_89 k89_30 _ _ _) ?_
    refine bfc ?_ ?_
    · refine bdc fun u2 => ?_
      refine bdc fun i3 => ?_
      show G 89 33 [some (.inr (.inr x0)), some (.inr (.inr x1)), some (.inl x2), some (.inr (.inr x3)), some (.inl x4), some (.inl x5), some (.inl x6), o7, o8] [.inl i3] u2.2 = _
      refine Eq.trans (e1 hG PT_89 k89_33 _ _ _) ?_
      refine bfc ?_ ?_
      · rfl
      · show G 89 36 [some (.inr (.inr x0)), some (.inr (.inr x1)), some (.inl x2), some (.inr (.inr x3)), some (.inl x4), some (.inl x5), some (.inl x6), o7, o8] [] u2.2 = _
        refine Eq.trans (e1 hG PT_89 k89_36 _ _ _) ?_
        show G 89 38 [some (.inr (.inr x0)), some (.inr (.inr x1)), some (.inl x2), some (.inr (.inr x3)), some (.inl x4), some (.inl x5), some (.inl x6), o7, o8] [.inl x6] u2.2 = _
        refine Eq.trans (e1 hG PT_89 k89_38 _ _ _) ?_
        show G 89 40 [some (.inr (.inr x0)), some (.inr (.inr x1)), some (.inl x2), some (.inr (.inr x3)), some (.inl x4), some (.inl x5), some (.inl x6), some (.inl x6), o8] [] u2.2 = _
        refine Eq.trans (e1 hG PT_89 k89_40 _ _ _) ?_
        show G 89 41 [some (.inr (.inr x0)), some (.inr (.inr x1)), some (.inl x2), some (.inr (.inr x3)), some (.inl x4), some (.inl x5), some (.inl x6), some (.inl x6), o8] [.inl 0] u2.2 = _
        refine Eq.trans (e1 hG PT_89 k89_41 _ _ _) ?_
        rfl
    · rfl
theorem b89_43 {G : AG} (hG : FIX G) (x0 : Nat) (x1 : Nat) (x2 : Int32) (x3 : Nat) (x4 : Int32) (x5 : Int32) (x6 : Int32) (x7 : Int32) (x8 : Int32) (H : Hp) : G 89 43 [some (.inr (.inr x0)), some (.inr (.inr x1)), some (.inl x2), some (.inr (.inr x3)), some (.inl x4), some (.inl x5), some (.inl x6), some (.inl x7), some (.inl x8)] [] H = (bif decide ((x2 : Int32) < (x8 : Int32)) then G 89 99 [some (.inr (.inr x0)), some (.inr (.inr x1)), some (.inl x2), some (.inr (.inr x3)), some (.inl x4), some (.inl x5), some (.inl x6), some (.inl x7), some (.inl x8)] [] H else bif decide ((x7 : Int32) < 0) then G 89 99 [some (.inr (.inr x0)), some (.inr (.inr x1)), some (.inl x2), some (.inr (.inr x3)), some (.inl x4), some (.inl x5), some (.inl x6), some (.inl x7), some (.inl x8)] [] H else (hgR H x0 17).bind fun r1 => (hAJ H r1 x6).bind fun j2 => (hAJ H x1 x7).bind fun j3 => (hgR H x3 0).bind fun r4 => (hAI H r4 0).bind fun i5 => (G 92 0 [some (.inl x8), some (.inl i5), none, none, none, none, none, none] [] H).bind fun u6 => (asJ u6.1).bind fun j7 => (hSJ u6.2 r1 x6 ((j2 + (j3 * j7)))).bind fun H8 => (hgR H8 x0 14).bind fun r9 => bif Nat.beq (H8.1 r9).1 5 then (G 8 0 [some (.inr (.inr r9)), some (.inl x7), some (.inl x4)] [] H8).bind fun u10 => (asI u10.1).bind fun i11 => G 89 43 [some (.inr (.inr x0)), some (.inr (.inr x1)), some (.inl x2), some (.inr (.inr x3)), some (.inl x4), some (.inl x5), some (.inl x6), some (.inl i11), some (.inl (x8 + 1))] [] u10.2 else none) := by
  refine Eq.trans (e1 hG PT_89 k89_43 _ _ _) ?_
  show G 89 45 [some (.inr (.inr x0)), some (.inr (.inr x1)), some (.inl x2), some (.inr (.inr x3)), some (.inl x4), some (.inl x5), some (.inl x6), some (.inl x7), some (.inl x8)] [.inl x8] H = _
  refine Eq.trans (e1 hG PT_89 k89_45 _ _ _) ?_
  show G 89 46 [some (.inr (.inr x0)), some (.inr (.inr x1)), some (.inl x2), some (.inr (.inr x3)), some (.inl x4), some (.inl x5), some (.inl x6), some (.inl x7), some (.inl x8)] [.inl x2, .inl x8] H = _
  refine Eq.trans (e1 hG PT_89 k89_46 _ _ _) ?_
  refine bfc ?_ ?_
  · rfl
  · show G 89 49 [some (.inr (.inr x0)), some (.inr (.inr x1)), some (.inl x2), some (.inr (.inr x3)), some (.inl x4), some (.inl x5), some (.inl x6), some (.inl x7), some (.inl x8)] [] H = _
    refine Eq.trans (e1 hG PT_89 k89_49 _ _ _) ?_
    show G 89 51 [some (.inr (.inr x0)), some (.inr (.inr x1)), some (.inl x2), some (.inr (.inr x3)), some (.inl x4), some (.inl x5), some (.inl x6), some (.inl x7), some (.inl x8)] [.inl x7] H = _
    refine Eq.trans (e1 hG PT_89 k89_51 _ _ _) ?_
    refine bfc ?_ ?_
    · rfl
    · show G 89 54 [some (.inr (.inr x0)), some (.inr (.inr x1)), some (.inl x2), some (.inr (.inr x3)), some (.inl x4), some (.inl x5), some (.inl x6), some (.inl x7), some (.inl x8)] [] H = _
      refine Eq.trans (e1 hG PT_89 k89_54 _ _ _) ?_
      show G 89 55 [some (.inr (.inr x0)), some (.inr (.inr x1)), some (.inl x2), some (.inr (.inr x3)), some (.inl x4), some (.inl x5), some (.inl x6), some (.inl x7), some (.inl x8)] [.inr (.inr x0)] H = _
      refine Eq.trans (e1 hG PT_89 k89_55 _ _ _) ?_
      refine bdc fun r1 => ?_
      show G 89 58 [some (.inr (.inr x0)), some (.inr (.inr x1)), some (.inl x2), some (.inr (.inr x3)), some (.inl x4), some (.inl x5), some (.inl x6), some (.inl x7), some (.inl x8)] [.inr (.inr r1)] H = _
      refine Eq.trans (e1 hG PT_89 k89_58 _ _ _) ?_
      show G 89 60 [some (.inr (.inr x0)), some (.inr (.inr x1)), some (.inl x2), some (.inr (.inr x3)), some (.inl x4), some (.inl x5), some (.inl x6), some (.inl x7), some (.inl x8)] [.inl x6, .inr (.inr r1)] H = _
      refine Eq.trans (e1 hG PT_89 k89_60 _ _ _) ?_
      show G 89 61 [some (.inr (.inr x0)), some (.inr (.inr x1)), some (.inl x2), some (.inr (.inr x3)), some (.inl x4), some (.inl x5), some (.inl x6), some (.inl x7), some (.inl x8)] [.inl x6, .inr (.inr r1), .inl x6, .inr (.inr r1)] H = _
      refine Eq.trans (e1 hG PT_89 k89_61 _ _ _) ?_
      refine bdc fun j2 => ?_
      show G 89 62 [some (.inr (.inr x0)), some (.inr (.inr x1)), some (.inl x2), some (.inr (.inr x3)), some (.inl x4), some (.inl x5), some (.inl x6), some (.inl x7), some (.inl x8)] [.inr (.inl j2), .inl x6, .inr (.inr r1)] H = _
      refine Eq.trans (e1 hG PT_89 k89_62 _ _ _) ?_
      show G 89 63 [some (.inr (.inr x0)), some (.inr (.inr x1)), some (.inl x2), some (.inr (.inr x3)), some (.inl x4), some (.inl x5), some (.inl x6), some (.inl x7), some (.inl x8)] [.inr (.inr x1), .inr (.inl j2), .inl x6, .inr (.inr r1)] H = _
      refine Eq.trans (e1 hG PT_89 k89_63 _ _ _) ?_
      show G 89 65 [some (.inr (.inr x0)), some (.inr (.inr x1)), some (.inl x2), some (.inr (.inr x3)), some (.inl x4), some (.inl x5), some (.inl x6), some (.inl x7), some (.inl x8)] [.inl x7, .inr (.inr x1), .inr (.inl j2), .inl x6, .inr (.inr r1)] H = _
      refine Eq.trans (e1 hG PT_89 k89_65 _ _ _) ?_
      refine bdc fun j3 => ?_
      show G 89 66 [some (.inr (.inr x0)), some (.inr (.inr x1)), some (.inl x2), some (.inr (.inr x3)), some (.inl x4), some (.inl x5), some (.inl x6), some (.inl x7), some (.inl x8)] [.inr (.inl j3), .inr (.inl j2), .inl x6, .inr (.inr r1)] H = _
      refine Eq.trans (e1 hG PT_89 k89_66 _ _ _) ?_
      show G 89 68 [some (.inr (.inr x0)), some (.inr (.inr x1)), some (.inl x2), some (.inr (.inr x3)), some (.inl x4), some (.inl x5), some (.inl x6), some (.inl x7), some (.inl x8)] [.inl x8, .inr (.inl j3), .inr (.inl j2), .inl x6, .inr (.inr r1)] H = _
      refine Eq.trans (e1 hG PT_89 k89_68 _ _ _) ?_
      show G 89 69 [some (.inr (.inr x0)), some (.inr (.inr x1)), some (.inl x2), some (.inr (.inr x3)), some (.inl x4), some (.inl x5), some (.inl x6), some (.inl x7), some (.inl x8)] [.inr (.inr x3), .inl x8, .inr (.inl j3), .inr (.inl j2), .inl x6, .inr (.inr r1)] H = _
      refine Eq.trans (e1 hG PT_89 k89_69 _ _ _) ?_
      refine bdc fun r4 => ?_
      show G 89 72 [some (.inr (.inr x0)), some (.inr (.inr x1)), some (.inl x2), some (.inr (.inr x3)), some (.inl x4), some (.inl x5), some (.inl x6), some (.inl x7), some (.inl x8)] [.inr (.inr r4), .inl x8, .inr (.inl j3), .inr (.inl j2), .inl x6, .inr (.inr r1)] H = _
      refine Eq.trans (e1 hG PT_89 k89_72 _ _ _) ?_
      show G 89 73 [some (.inr (.inr x0)), some (.inr (.inr x1)), some (.inl x2), some (.inr (.inr x3)), some (.inl x4), some (.inl x5), some (.inl x6), some (.inl x7), some (.inl x8)] [.inl 0, .inr (.inr r4), .inl x8, .inr (.inl j3), .inr (.inl j2), .inl x6, .inr (.inr r1)] H = _
      refine Eq.trans (e1 hG PT_89 k89_73 _ _ _) ?_
      refine bdc fun i5 => ?_
      show G 89 74 [some (.inr (.inr x0)), some (.inr (.inr x1)), some (.inl x2), some (.inr (.inr x3)), some (.inl x4), some (.inl x5), some (.inl x6), some (.inl x7), some (.inl x8)] [.inl i5, .inl x8, .inr (.inl j3), .inr (.inl j2), .inl x6, .inr (.inr r1)] H = _
      refine Eq.trans (e1 hG PT_89 k89_74 _ _ _) ?_
      refine bdc fun u6 => ?_
      refine bdc fun j7 => ?_
      show G 89 77 [some (.inr (.inr x0)), some (.inr (.inr x1)), some (.inl x2), some (.inr (.inr x3)), some (.inl x4), some (.inl x5), some (.inl x6), some (.inl x7), some (.inl x8)] [.inr (.inl j7), .inr (.inl j3), .inr (.inl j2), .inl x6, .inr (.inr r1)] u6.2 = _
      refine Eq.trans (e1 hG PT_89 k89_77 _ _ _) ?_
      show G 89 78 [some (.inr (.inr x0)), some (.inr (.inr x1)), some (.inl x2), some (.inr (.inr x3)), some (.inl x4), some (.inl x5), some (.inl x6), some (.inl x7), some (.inl x8)] [.inr (.inl (j3 * j7)), .inr (.inl j2), .inl x6, .inr (.inr r1)] u6.2 = _
      refine Eq.trans (e1 hG PT_89 k89_78 _ _ _) ?_
      show G 89 79 [some (.inr (.inr x0)), some (.inr (.inr x1)), some (.inl x2), some (.inr (.inr x3)), some (.inl x4), some (.inl x5), some (.inl x6), some (.inl x7), some (.inl x8)] [.inr (.inl (j2 + (j3 * j7))), .inl x6, .inr (.inr r1)] u6.2 = _
      refine Eq.trans (e1 hG PT_89 k89_79 _ _ _) ?_
      refine bdc fun H8 => ?_
      show G 89 80 [some (.inr (.inr x0)), some (.inr (.inr x1)), some (.inl x2), some (.inr (.inr x3)), some (.inl x4), some (.inl x5), some (.inl x6), some (.inl x7), some (.inl x8)] [] H8 = _
      refine Eq.trans (e1 hG PT_89 k89_80 _ _ _) ?_
      show G 89 81 [some (.inr (.inr x0)), some (.inr (.inr x1)), some (.inl x2), some (.inr (.inr x3)), some (.inl x4), some (.inl x5), some (.inl x6), some (.inl x7), some (.inl x8)] [.inr (.inr x0)] H8 = _
      refine Eq.trans (e1 hG PT_89 k89_81 _ _ _) ?_
      refine bdc fun r9 => ?_
      show G 89 84 [some (.inr (.inr x0)), some (.inr (.inr x1)), some (.inl x2), some (.inr (.inr x3)), some (.inl x4), some (.inl x5), some (.inl x6), some (.inl x7), some (.inl x8)] [.inr (.inr r9)] H8 = _
      refine Eq.trans (e1 hG PT_89 k89_84 _ _ _) ?_
      show G 89 86 [some (.inr (.inr x0)), some (.inr (.inr x1)), some (.inl x2), some (.inr (.inr x3)), some (.inl x4), some (.inl x5), some (.inl x6), some (.inl x7), some (.inl x8)] [.inl x7, .inr (.inr r9)] H8 = _
      refine Eq.trans (e1 hG PT_89 k89_86 _ _ _) ?_
      show G 89 88 [some (.inr (.inr x0)), some (.inr (.inr x1)), some (.inl x2), some (.inr (.inr x3)), some (.inl x4), some (.inl x5), some (.inl x6), some (.inl x7), some (.inl x8)] [.inl x4, .inl x7, .inr (.inr r9)] H8 = _
      refine Eq.trans (e1 hG PT_89 k89_88 _ _ _) ?_
      refine bfc ?_ ?_
      · refine bdc fun u10 => ?_
        refine bdc fun i11 => ?_
        show G 89 91 [some (.inr (.inr x0)), some (.inr (.inr x1)), some (.inl x2), some (.inr (.inr x3)), some (.inl x4), some (.inl x5), some (.inl x6), some (.inl x7), some (.inl x8)] [.inl i11] u10.2 = _
        refine Eq.trans (e1 hG PT_89 k89_91 _ _ _) ?_
        show G 89 93 [some (.inr (.inr x0)), some (.inr (.inr x1)), some (.inl x2), some (.inr (.inr x3)), some (.inl x4), some (.inl x5), some (.inl x6), some (.inl i11), some (.inl x8)] [] u10.2 = _
        refine Eq.trans (e1 hG PT_89 k89_93 _ _ _) ?_
        show G 89 96 [some (.inr (.inr x0)), some (.inr (.inr x1)), some (.inl x2), some (.inr (.inr x3)), some (.inl x4), some (.inl x5), some (.inl x6), some (.inl i11), some (.inl (x8 + 1))] [] u10.2 = _
        refine Eq.trans (e1 hG PT_89 k89_96 _ _ _) ?_
        rfl
      · rfl
theorem b89_99 {G : AG} (hG : FIX G) (x0 : Nat) (x1 : Nat) (x2 : Int32) (x3 : Nat) (x4 : Int32) (x5 : Int32) (x6 : Int32) (o7 : Option AV) (o8 : Option AV) (H : Hp) : G 89 99 [some (.inr (.inr x0)), some (.inr (.inr x1)), some (.inl x2), some (.inr (.inr x3)), some (.inl x4), some (.inl x5), some (.inl x6), o7, o8] [] H = (G 89 15 [some (.inr (.inr x0)), some (.inr (.inr x1)), some (.inl x2), some (.inr (.inr x3)), some (.inl x4), some (.inl x5), some (.inl (x6 + 1)), o7, o8] [] H) := by
  refine Eq.trans (e1 hG PT_89 k89_99 _ _ _) ?_
  show G 89 102 [some (.inr (.inr x0)), some (.inr (.inr x1)), some (.inl x2), some (.inr (.inr x3)), some (.inl x4), some (.inl x5), some (.inl (x6 + 1)), o7, o8] [] H = _
  refine Eq.trans (e1 hG PT_89 k89_102 _ _ _) ?_
  rfl
-- StepsAhead$Loop.counter()I
theorem PT_90 : PT 90 = pt90 := rfl
theorem k90_0 : lkp pt90 0 = iP 1 (fK (.inl 2)) := rfl
theorem k90_1 : lkp pt90 1 = iP 2 (fAld 0) := rfl
theorem k90_2 : lkp pt90 2 = iRI 5 (gtI 3) := rfl
theorem k90_5 : lkp pt90 5 = iP 6 (f2I (fun x y => x + y)) := rfl
theorem k90_6 : lkp pt90 6 = iRet rI := rfl
theorem b90_0 {G : AG} (hG : FIX G) (x0 : Nat) (H : Hp) : G 90 0 [some (.inr (.inr x0))] [] H = ((hgI H x0 3).bind fun i1 => some (some (.inl ((2 + i1))), H)) := by
  refine Eq.trans (e1 hG PT_90 k90_0 _ _ _) ?_
  show G 90 1 [some (.inr (.inr x0))] [.inl 2] H = _
  refine Eq.trans (e1 hG PT_90 k90_1 _ _ _) ?_
  show G 90 2 [some (.inr (.inr x0))] [.inr (.inr x0), .inl 2] H = _
  refine Eq.trans (e1 hG PT_90 k90_2 _ _ _) ?_
  refine bdc fun i1 => ?_
  show G 90 5 [some (.inr (.inr x0))] [.inl i1, .inl 2] H = _
  refine Eq.trans (e1 hG PT_90 k90_5 _ _ _) ?_
  show G 90 6 [some (.inr (.inr x0))] [.inl (2 + i1)] H = _
  exact e1 hG PT_90 k90_6 _ _ _
-- StepsAhead$Products.isAheadOf(II)Z
theorem PT_91 : PT 91 = pt91 := rfl
theorem k91_0 : lkp pt91 0 = iP 1 (fIld 1) := rfl
theorem k91_1 : lkp pt91 1 = iB 4 25 (b1 (fun x => decide (x < 0))) := rfl
theorem k91_4 : lkp pt91 4 = iP 5 (fIld 1) := rfl
theorem k91_5 : lkp pt91 5 = iP 8 (fK (.inl 252)) := rfl
theorem k91_8 : lkp pt91 8 = iB 11 25 (b2 (fun x y => decide (y ≤ x))) := rfl
theorem k91_11 : lkp pt91 11 = iP 12 (fAld 0) := rfl
theorem k91_12 : lkp pt91 12 = iRR 15 (gtR 13) := rfl
theorem k91_15 : lkp pt91 15 = iP 16 (fIld 1) := rfl
theorem k91_16 : lkp pt91 16 = iRI 17 qAI := rfl
theorem k91_17 : lkp pt91 17 = iP 18 (fIld 2) := rfl
theorem k91_18 : lkp pt91 18 = iB 21 25 (b2 (fun x y => decide (y ≤ x))) := rfl
theorem k91_21 : lkp pt91 21 = iP 22 (fK (.inl 1)) := rfl
theorem k91_22 : lkp pt91 22 = iP 26 fGo := rfl
theorem k91_25 : lkp pt91 25 = iP 26 (fK (.inl 0)) := rfl
theorem k91_26 : lkp pt91 26 = iRet rZ := rfl
theorem b91_0 {G : AG} (hG : FIX G) (x0 : Nat) (x1 : Int32) (x2 : Int32) (H : Hp) : G 91 0 [some (.inr (.inr x0)), some (.inl x1), some (.inl x2)] [] H = (bif decide ((x1 : Int32) < 0) then G 91 25 [some (.inr (.inr x0)), some (.inl x1), some (.inl x2)] [] H else bif decide ((252 : Int32) ≤ (x1 : Int32)) then G 91 25 [some (.inr (.inr x0)), some (.inl x1), some (.inl x2)] [] H else (hgR H x0 13).bind fun r1 => (hAI H r1 x1).bind fun i2 => bif decide ((x2 : Int32) ≤ (i2 : Int32)) then G 91 25 [some (.inr (.inr x0)), some (.inl x1), some (.inl x2)] [] H else G 91 26 [some (.inr (.inr x0)), some (.inl x1), some (.inl x2)] [.inl 1] H) := by
  refine Eq.trans (e1 hG PT_91 k91_0 _ _ _) ?_
  show G 91 1 [some (.inr (.inr x0)), some (.inl x1), some (.inl x2)] [.inl x1] H = _
  refine Eq.trans (e1 hG PT_91 k91_1 _ _ _) ?_
  refine bfc ?_ ?_
  · rfl
  · show G 91 4 [some (.inr (.inr x0)), some (.inl x1), some (.inl x2)] [] H = _
    refine Eq.trans (e1 hG PT_91 k91_4 _ _ _) ?_
    show G 91 5 [some (.inr (.inr x0)), some (.inl x1), some (.inl x2)] [.inl x1] H = _
    refine Eq.trans (e1 hG PT_91 k91_5 _ _ _) ?_
    show G 91 8 [some (.inr (.inr x0)), some (.inl x1), some (.inl x2)] [.inl 252, .inl x1] H = _
    refine Eq.trans (e1 hG PT_91 k91_8 _ _ _) ?_
    refine bfc ?_ ?_
    · rfl
    · show G 91 11 [some (.inr (.inr x0)), some (.inl x1), some (.inl x2)] [] H = _
      refine Eq.trans (e1 hG PT_91 k91_11 _ _ _) ?_
      show G 91 12 [some (.inr (.inr x0)), some (.inl x1), some (.inl x2)] [.inr (.inr x0)] H = _
      refine Eq.trans (e1 hG PT_91 k91_12 _ _ _) ?_
      refine bdc fun r1 => ?_
      show G 91 15 [some (.inr (.inr x0)), some (.inl x1), some (.inl x2)] [.inr (.inr r1)] H = _
      refine Eq.trans (e1 hG PT_91 k91_15 _ _ _) ?_
      show G 91 16 [some (.inr (.inr x0)), some (.inl x1), some (.inl x2)] [.inl x1, .inr (.inr r1)] H = _
      refine Eq.trans (e1 hG PT_91 k91_16 _ _ _) ?_
      refine bdc fun i2 => ?_
      show G 91 17 [some (.inr (.inr x0)), some (.inl x1), some (.inl x2)] [.inl i2] H = _
      refine Eq.trans (e1 hG PT_91 k91_17 _ _ _) ?_
      show G 91 18 [some (.inr (.inr x0)), some (.inl x1), some (.inl x2)] [.inl x2, .inl i2] H = _
      refine Eq.trans (e1 hG PT_91 k91_18 _ _ _) ?_
      refine bfc ?_ ?_
      · rfl
      · show G 91 21 [some (.inr (.inr x0)), some (.inl x1), some (.inl x2)] [] H = _
        refine Eq.trans (e1 hG PT_91 k91_21 _ _ _) ?_
        show G 91 22 [some (.inr (.inr x0)), some (.inl x1), some (.inl x2)] [.inl 1] H = _
        refine Eq.trans (e1 hG PT_91 k91_22 _ _ _) ?_
        rfl
theorem b91_25 {G : AG} (hG : FIX G) (x0 : Nat) (x1 : Int32) (x2 : Int32) (H : Hp) : G 91 25 [some (.inr (.inr x0)), some (.inl x1), some (.inl x2)] [] H = (G 91 26 [some (.inr (.inr x0)), some (.inl x1), some (.inl x2)] [.inl 0] H) := by
  refine Eq.trans (e1 hG PT_91 k91_25 _ _ _) ?_
  rfl
theorem b91_26 {G : AG} (hG : FIX G) (x0 : Nat) (x1 : Int32) (x2 : Int32) (s0 : Int32) (H : Hp) : G 91 26 [some (.inr (.inr x0)), some (.inl x1), some (.inl x2)] [.inl s0] H = (retZ s0 H) := by
  exact e1 hG PT_91 k91_26 _ _ _
-- StepsAhead$Reckoner.sumOfPowers(II)J
theorem PT_92 : PT 92 = pt92 := rfl
theorem k92_0 : lkp pt92 0 = iP 1 (fK (.inr (.inl 0))) := rfl
theorem k92_1 : lkp pt92 1 = iP 2 (fLst 2) := rfl
theorem k92_2 : lkp pt92 2 = iP 3 (fK (.inl 1)) := rfl
theorem k92_3 : lkp pt92 3 = iP 5 (fIst 4) := rfl
theorem k92_5 : lkp pt92 5 = iP 7 (fIld 4) := rfl
theorem k92_7 : lkp pt92 7 = iP 8 (fIld 1) := rfl
theorem k92_8 : lkp pt92 8 = iB 11 54 (b2 (fun x y => decide (y < x))) := rfl
theorem k92_11 : lkp pt92 11 = iP 13 (fIld 4) := rfl
theorem k92_13 : lkp pt92 13 = iP 14 (fK (.inl 2)) := rfl
theorem k92_14 : lkp pt92 14 = iB 17 54 (b2 (fun x y => decide (y < x))) := rfl
theorem k92_17 : lkp pt92 17 = iP 18 (fK (.inr (.inl 1))) := rfl
theorem k92_18 : lkp pt92 18 = iP 20 (fLst 5) := rfl
theorem k92_20 : lkp pt92 20 = iP 21 (fK (.inl 0)) := rfl
theorem k92_21 : lkp pt92 21 = iP 23 (fIst 7) := rfl
theorem k92_23 : lkp pt92 23 = iP 25 (fIld 7) := rfl
theorem k92_25 : lkp pt92 25 = iP 26 (fIld 0) := rfl
theorem k92_26 : lkp pt92 26 = iB 29 43 (b2 (fun x y => decide (y ≤ x))) := rfl
theorem k92_29 : lkp pt92 29 = iP 31 (fJld 5) := rfl
theorem k92_31 : lkp pt92 31 = iP 33 (fIld 4) := rfl
theorem k92_33 : lkp pt92 33 = iP 34 fI2l := rfl
theorem k92_34 : lkp pt92 34 = iP 35 (f2J (fun x y => x * y)) := rfl
theorem k92_35 : lkp pt92 35 = iP 37 (fLst 5) := rfl
theorem k92_37 : lkp pt92 37 = iP 40 (fInc 7 1) := rfl
theorem k92_40 : lkp pt92 40 = iP 23 fGo := rfl
theorem k92_43 : lkp pt92 43 = iP 44 (fJld 2) := rfl
theorem k92_44 : lkp pt92 44 = iP 46 (fJld 5) := rfl
theorem k92_46 : lkp pt92 46 = iP 47 (f2J (fun x y => x + y)) := rfl
theorem k92_47 : lkp pt92 47 = iP 48 (fLst 2) := rfl
theorem k92_48 : lkp pt92 48 = iP 51 (fInc 4 1) := rfl
theorem k92_51 : lkp pt92 51 = iP 5 fGo := rfl
theorem k92_54 : lkp pt92 54 = iP 55 (fJld 2) := rfl
theorem k92_55 : lkp pt92 55 = iRet rJ := rfl
theorem b92_0 {G : AG} (hG : FIX G) (x0 : Int32) (x1 : Int32) (H : Hp) : G 92 0 [some (.inl x0), some (.inl x1), none, none, none, none, none, none] [] H = (G 92 5 [some (.inl x0), some (.inl x1), some (.inr (.inl 0)), none, some (.inl 1), none, none, none] [] H) := by
  refine Eq.trans (e1 hG PT_92 k92_0 _ _ _) ?_
  show G 92 1 [some (.inl x0), some (.inl x1), none, none, none, none, none, none] [.inr (.inl 0)] H = _
  refine Eq.trans (e1 hG PT_92 k92_1 _ _ _) ?_
  show G 92 2 [some (.inl x0), some (.inl x1), some (.inr (.inl 0)), none, none, none, none, none] [] H = _
  refine Eq.trans (e1 hG PT_92 k92_2 _ _ _) ?_
  show G 92 3 [some (.inl x0), some (.inl x1), some (.inr (.inl 0)), none, none, none, none, none] [.inl 1] H = _
  refine Eq.trans (e1 hG PT_92 k92_3 _ _ _) ?_
  rfl
theorem b92_5 {G : AG} (hG : FIX G) (x0 : Int32) (x1 : Int32) (x2 : Int64) (x4 : Int32) (o5 : Option AV) (o7 : Option AV) (H : Hp) : G 92 5 [some (.inl x0), some (.inl x1), some (.inr (.inl x2)), none, some (.inl x4), o5, none, o7] [] H = (bif decide ((x1 : Int32) < (x4 : Int32)) then G 92 54 [some (.inl x0), some (.inl x1), some (.inr (.inl x2)), none, some (.inl x4), o5, none, o7] [] H else bif decide ((2 : Int32) < (x4 : Int32)) then G 92 54 [some (.inl x0), some (.inl x1), some (.inr (.inl x2)), none, some (.inl x4), o5, none, o7] [] H else G 92 23 [some (.inl x0), some (.inl x1), some (.inr (.inl x2)), none, some (.inl x4), some (.inr (.inl 1)), none, some (.inl 0)] [] H) := by
  refine Eq.trans (e1 hG PT_92 k92_5 _ _ _) ?_
  show G 92 7 [some (.inl x0), some (.inl x1), some (.inr (.inl x2)), none, some (.inl x4), o5, none, o7] [.inl x4] H = _
  refine Eq.trans (e1 hG PT_92 k92_7 _ _ _) ?_
  show G 92 8 [some (.inl x0), some (.inl x1), some (.inr (.inl x2)), none, some (.inl x4), o5, none, o7] [.inl x1, .inl x4] H = _
  refine Eq.trans (e1 hG PT_92 k92_8 _ _ _) ?_
  refine bfc ?_ ?_
  · rfl
  · show G 92 11 [some (.inl x0), some (.inl x1), some (.inr (.inl x2)), none, some (.inl x4), o5, none, o7] [] H = _
    refine Eq.trans (e1 hG PT_92 k92_11 _ _ _) ?_
    show G 92 13 [some (.inl x0), some (.inl x1), some (.inr (.inl x2)), none, some (.inl x4), o5, none, o7] [.inl x4] H = _
    refine Eq.trans (e1 hG PT_92 k92_13 _ _ _) ?_
    show G 92 14 [some (.inl x0), some (.inl x1), some (.inr (.inl x2)), none, some (.inl x4), o5, none, o7] [.inl 2, .inl x4] H = _
    refine Eq.trans (e1 hG PT_92 k92_14 _ _ _) ?_
    refine bfc ?_ ?_
    · rfl
    · show G 92 17 [some (.inl x0), some (.inl x1), some (.inr (.inl x2)), none, some (.inl x4), o5, none, o7] [] H = _
      refine Eq.trans (e1 hG PT_92 k92_17 _ _ _) ?_
      show G 92 18 [some (.inl x0), some (.inl x1), some (.inr (.inl x2)), none, some (.inl x4), o5, none, o7] [.inr (.inl 1)] H = _
      refine Eq.trans (e1 hG PT_92 k92_18 _ _ _) ?_
      show G 92 20 [some (.inl x0), some (.inl x1), some (.inr (.inl x2)), none, some (.inl x4), some (.inr (.inl 1)), none, o7] [] H = _
      refine Eq.trans (e1 hG PT_92 k92_20 _ _ _) ?_
      show G 92 21 [some (.inl x0), some (.inl x1), some (.inr (.inl x2)), none, some (.inl x4), some (.inr (.inl 1)), none, o7] [.inl 0] H = _
      refine Eq.trans (e1 hG PT_92 k92_21 _ _ _) ?_
      rfl
theorem b92_23 {G : AG} (hG : FIX G) (x0 : Int32) (x1 : Int32) (x2 : Int64) (x4 : Int32) (x5 : Int64) (x7 : Int32) (H : Hp) : G 92 23 [some (.inl x0), some (.inl x1), some (.inr (.inl x2)), none, some (.inl x4), some (.inr (.inl x5)), none, some (.inl x7)] [] H = (bif decide ((x0 : Int32) ≤ (x7 : Int32)) then G 92 5 [some (.inl x0), some (.inl x1), some (.inr (.inl (x2 + x5))), none, some (.inl (x4 + 1)), some (.inr (.inl x5)), none, some (.inl x7)] [] H else G 92 23 [some (.inl x0), some (.inl x1), some (.inr (.inl x2)), none, some (.inl x4), some (.inr (.inl (x5 * x4.toInt64))), none, some (.inl (x7 + 1))] [] H) := by
  refine Eq.trans (e1 hG PT_92 k92_23 _ _ _) ?_
  show G 92 25 [some (.inl x0), some (.inl x1), some (.inr (.inl x2)), none, some (.inl x4), some (.inr (.inl x5)), none, some (.inl x7)] [.inl x7] H = _
  refine Eq.trans (e1 hG PT_92 k92_25 _ _ _) ?_
  show G 92 26 [some (.inl x0), some (.inl x1), some (.inr (.inl x2)), none, some (.inl x4), some (.inr (.inl x5)), none, some (.inl x7)] [.inl x0, .inl x7] H = _
  refine Eq.trans (e1 hG PT_92 k92_26 _ _ _) ?_
  refine bfc ?_ ?_
  · show G 92 43 [some (.inl x0), some (.inl x1), some (.inr (.inl x2)), none, some (.inl x4), some (.inr (.inl x5)), none, some (.inl x7)] [] H = _
    refine Eq.trans (e1 hG PT_92 k92_43 _ _ _) ?_
    show G 92 44 [some (.inl x0), some (.inl x1), some (.inr (.inl x2)), none, some (.inl x4), some (.inr (.inl x5)), none, some (.inl x7)] [.inr (.inl x2)] H = _
    refine Eq.trans (e1 hG PT_92 k92_44 _ _ _) ?_
    show G 92 46 [some (.inl x0), some (.inl x1), some (.inr (.inl x2)), none, some (.inl x4), some (.inr (.inl x5)), none, some (.inl x7)] [.inr (.inl x5), .inr (.inl x2)] H = _
    refine Eq.trans (e1 hG PT_92 k92_46 _ _ _) ?_
    show G 92 47 [some (.inl x0), some (.inl x1), some (.inr (.inl x2)), none, some (.inl x4), some (.inr (.inl x5)), none, some (.inl x7)] [.inr (.inl (x2 + x5))] H = _
    refine Eq.trans (e1 hG PT_92 k92_47 _ _ _) ?_
    show G 92 48 [some (.inl x0), some (.inl x1), some (.inr (.inl (x2 + x5))), none, some (.inl x4), some (.inr (.inl x5)), none, some (.inl x7)] [] H = _
    refine Eq.trans (e1 hG PT_92 k92_48 _ _ _) ?_
    show G 92 51 [some (.inl x0), some (.inl x1), some (.inr (.inl (x2 + x5))), none, some (.inl (x4 + 1)), some (.inr (.inl x5)), none, some (.inl x7)] [] H = _
    refine Eq.trans (e1 hG PT_92 k92_51 _ _ _) ?_
    rfl
  · show G 92 29 [some (.inl x0), some (.inl x1), some (.inr (.inl x2)), none, some (.inl x4), some (.inr (.inl x5)), none, some (.inl x7)] [] H = _
    refine Eq.trans (e1 hG PT_92 k92_29 _ _ _) ?_
    show G 92 31 [some (.inl x0), some (.inl x1), some (.inr (.inl x2)), none, some (.inl x4), some (.inr (.inl x5)), none, some (.inl x7)] [.inr (.inl x5)] H = _
    refine Eq.trans (e1 hG PT_92 k92_31 _ _ _) ?_
    show G 92 33 [some (.inl x0), some (.inl x1), some (.inr (.inl x2)), none, some (.inl x4), some (.inr (.inl x5)), none, some (.inl x7)] [.inl x4, .inr (.inl x5)] H = _
    refine Eq.trans (e1 hG PT_92 k92_33 _ _ _) ?_
    show G 92 34 [some (.inl x0), some (.inl x1), some (.inr (.inl x2)), none, some (.inl x4), some (.inr (.inl x5)), none, some (.inl x7)] [.inr (.inl x4.toInt64), .inr (.inl x5)] H = _
    refine Eq.trans (e1 hG PT_92 k92_34 _ _ _) ?_
    show G 92 35 [some (.inl x0), some (.inl x1), some (.inr (.inl x2)), none, some (.inl x4), some (.inr (.inl x5)), none, some (.inl x7)] [.inr (.inl (x5 * x4.toInt64))] H = _
    refine Eq.trans (e1 hG PT_92 k92_35 _ _ _) ?_
    show G 92 37 [some (.inl x0), some (.inl x1), some (.inr (.inl x2)), none, some (.inl x4), some (.inr (.inl (x5 * x4.toInt64))), none, some (.inl x7)] [] H = _
    refine Eq.trans (e1 hG PT_92 k92_37 _ _ _) ?_
    show G 92 40 [some (.inl x0), some (.inl x1), some (.inr (.inl x2)), none, some (.inl x4), some (.inr (.inl (x5 * x4.toInt64))), none, some (.inl (x7 + 1))] [] H = _
    refine Eq.trans (e1 hG PT_92 k92_40 _ _ _) ?_
    rfl
theorem b92_54 {G : AG} (hG : FIX G) (x0 : Int32) (x1 : Int32) (x2 : Int64) (x4 : Int32) (o5 : Option AV) (o7 : Option AV) (H : Hp) : G 92 54 [some (.inl x0), some (.inl x1), some (.inr (.inl x2)), none, some (.inl x4), o5, none, o7] [] H = (some (some (.inr (.inl x2)), H)) := by
  refine Eq.trans (e1 hG PT_92 k92_54 _ _ _) ?_
  show G 92 55 [some (.inl x0), some (.inl x1), some (.inr (.inl x2)), none, some (.inl x4), o5, none, o7] [.inr (.inl x2)] H = _
  exact e1 hG PT_92 k92_55 _ _ _
-- StepsAhead$Reckoner.sumToExpression([JILStepsAhead$Loop;)V
theorem PT_93 : PT 93 = pt93 := rfl
theorem k93_0 : lkp pt93 0 = iP 1 (fIld 2) := rfl
theorem k93_1 : lkp pt93 1 = iP 2 (fK (.inl 1)) := rfl
theorem k93_2 : lkp pt93 2 = iP 3 (f2I (fun x y => x + y)) := rfl
theorem k93_3 : lkp pt93 3 = iP 5 (fIst 4) := rfl
theorem k93_5 : lkp pt93 5 = iP 7 (fIld 4) := rfl
theorem k93_7 : lkp pt93 7 = iP 8 (fK (.inl 1)) := rfl
theorem k93_8 : lkp pt93 8 = iB 11 88 (b2 (fun x y => decide (x < y))) := rfl
theorem k93_11 : lkp pt93 11 = iP 12 (fIld 2) := rfl
theorem k93_12 : lkp pt93 12 = iP 13 (fK (.inl 1)) := rfl
theorem k93_13 : lkp pt93 13 = iP 14 (f2I (fun x y => x + y)) := rfl
theorem k93_14 : lkp pt93 14 = iP 16 (fIld 4) := rfl
theorem k93_16 : lkp pt93 16 = iP 17 (f2I (fun x y => x - y)) := rfl
theorem k93_17 : lkp pt93 17 = iC 20 79 1 1 1 := rfl
theorem k93_20 : lkp pt93 20 = iP 22 (fIst 5) := rfl
theorem k93_22 : lkp pt93 22 = iP 23 (fK (.inl 0)) := rfl
theorem k93_23 : lkp pt93 23 = iP 25 (fIst 6) := rfl
theorem k93_25 : lkp pt93 25 = iP 27 (fIld 6) := rfl
theorem k93_27 : lkp pt93 27 = iP 29 (fIld 5) := rfl
theorem k93_29 : lkp pt93 29 = iB 32 61 (b2 (fun x y => decide (y ≤ x))) := rfl
theorem k93_32 : lkp pt93 32 = iP 33 (fAld 0) := rfl
theorem k93_33 : lkp pt93 33 = iRR 36 (gtR 17) := rfl
theorem k93_36 : lkp pt93 36 = iP 38 (fIld 6) := rfl
theorem k93_38 : lkp pt93 38 = iP 39 fDup2 := rfl
theorem k93_39 : lkp pt93 39 = iRJ 40 qAJ := rfl
theorem k93_40 : lkp pt93 40 = iP 41 (fAld 0) := rfl
theorem k93_41 : lkp pt93 41 = iP 43 (fIld 4) := rfl
theorem k93_43 : lkp pt93 43 = iP 44 (fAld 1) := rfl
theorem k93_44 : lkp pt93 44 = iP 46 (fIld 6) := rfl
theorem k93_46 : lkp pt93 46 = iP 47 (fAld 3) := rfl
theorem k93_47 : lkp pt93 47 = iCK 50 3 90 1 1 1 := rfl
theorem k93_50 : lkp pt93 50 = iCK 53 6 94 9 5 2 := rfl
theorem k93_53 : lkp pt93 53 = iP 54 (f2J (fun x y => x + y)) := rfl
theorem k93_54 : lkp pt93 54 = iW 55 wAJ := rfl
theorem k93_55 : lkp pt93 55 = iP 58 (fInc 6 1) := rfl
theorem k93_58 : lkp pt93 58 = iP 25 fGo := rfl
theorem k93_61 : lkp pt93 61 = iP 62 (fAld 0) := rfl
theorem k93_62 : lkp pt93 62 = iRR 65 (gtR 14) := rfl
theorem k93_65 : lkp pt93 65 = iP 66 (fAld 0) := rfl
theorem k93_66 : lkp pt93 66 = iRR 69 (gtR 17) := rfl
theorem k93_69 : lkp pt93 69 = iP 71 (fIld 5) := rfl
theorem k93_71 : lkp pt93 71 = iP 72 (fAld 3) := rfl
theorem k93_72 : lkp pt93 72 = iRR 75 (gtR 0) := rfl
theorem k93_75 : lkp pt93 75 = iP 76 (fAld 3) := rfl
theorem k93_76 : lkp pt93 76 = iRI 79 (gtI 3) := rfl
theorem k93_79 : lkp pt93 79 = iCK 82 5 80 11 5 0 := rfl
theorem k93_82 : lkp pt93 82 = iP 85 (fInc 4 (-1)) := rfl
theorem k93_85 : lkp pt93 85 = iP 5 fGo := rfl
theorem k93_88 : lkp pt93 88 = iP 89 (fK (.inl 0)) := rfl
theorem k93_89 : lkp pt93 89 = iP 91 (fIst 4) := rfl
theorem k93_91 : lkp pt93 91 = iP 93 (fIld 4) := rfl
theorem k93_93 : lkp pt93 93 = iP 96 (fK (.inl 252)) := rfl
theorem k93_96 : lkp pt93 96 = iB 99 139 (b2 (fun x y => decide (y ≤ x))) := rfl
theorem k93_99 : lkp pt93 99 = iP 100 (fAld 0) := rfl
theorem k93_100 : lkp pt93 100 = iRR 103 (gtR 17) := rfl
theorem k93_103 : lkp pt93 103 = iP 105 (fIld 4) := rfl
theorem k93_105 : lkp pt93 105 = iRJ 106 qAJ := rfl
theorem k93_106 : lkp pt93 106 = iP 109 (fK (.inr (.inl 60))) := rfl
theorem k93_109 : lkp pt93 109 = iRJ 110 (q2J (fun x y => x - x / y * y)) := rfl
theorem k93_110 : lkp pt93 110 = iP 111 (fK (.inr (.inl 0))) := rfl
theorem k93_111 : lkp pt93 111 = iP 112 fLcmp := rfl
theorem k93_112 : lkp pt93 112 = iB 115 120 (b1 (fun x => decide (x = 0))) := rfl
theorem k93_115 : lkp pt93 115 = iP 116 (fAld 0) := rfl
theorem k93_116 : lkp pt93 116 = iP 117 (fK (.inl 1)) := rfl
theorem k93_117 : lkp pt93 117 = iW 120 (ptZ 20) := rfl
theorem k93_120 : lkp pt93 120 = iP 121 (fAld 0) := rfl
theorem k93_121 : lkp pt93 121 = iRR 124 (gtR 17) := rfl
theorem k93_124 : lkp pt93 124 = iP 126 (fIld 4) := rfl
theorem k93_126 : lkp pt93 126 = iP 127 fDup2 := rfl
theorem k93_127 : lkp pt93 127 = iRJ 128 qAJ := rfl
theorem k93_128 : lkp pt93 128 = iP 131 (fK (.inr (.inl 60))) := rfl
theorem k93_131 : lkp pt93 131 = iRJ 132 (q2J (fun x y => x / y)) := rfl
theorem k93_132 : lkp pt93 132 = iW 133 wAJ := rfl
theorem k93_133 : lkp pt93 133 = iP 136 (fInc 4 1) := rfl
theorem k93_136 : lkp pt93 136 = iP 91 fGo := rfl
theorem k93_139 : lkp pt93 139 = iRet rV := rfl
theorem b93_0 {G : AG} (hG : FIX G) (x0 : Nat) (x1 : Nat) (x2 : Int32) (x3 : Nat) (H : Hp) : G 93 0 [some (.inr (.inr x0)), some (.inr (.inr x1)), some (.inl x2), some (.inr (.inr x3)), none, none, none] [] H = (G 93 5 [some (.inr (.inr x0)), some (.inr (.inr x1)), some (.inl x2), some (.inr (.inr x3)), some (.inl (x2 + 1)), none, none] [] H) := by
  refine Eq.trans (e1 hG PT_93 k93_0 _ _ _) ?_
  show G 93 1 [some (.inr (.inr x0)), some (.inr (.inr x1)), some (.inl x2), some (.inr (.inr x3)), none, none, none] [.inl x2] H = _
  refine Eq.trans (e1 hG PT_93 k93_1 _ _ _) ?_
  show G 93 2 [some (.inr (.inr x0)), some (.inr (.inr x1)), some (.inl x2), some (.inr (.inr x3)), none, none, none] [.inl 1, .inl x2] H = _
  refine Eq.trans (e1 hG PT_93 k93_2 _ _ _) ?_
  show G 93 3 [some (.inr (.inr x0)), some (.inr (.inr x1)), some (.inl x2), some (.inr (.inr x3)), none, none, none] [.inl (x2 + 1)] H = _
  refine Eq.trans (e1 hG PT_93 k93_3 _ _ _) ?_
  rfl
theorem b93_5 {G : AG} (hG : FIX G) (x0 : Nat) (x1 : Nat) (x2 : Int32) (x3 : Nat) (x4 : Int32) (o5 : Option AV) (o6 : Option AV) (H : Hp) : G 93 5 [some (.inr (.inr x0)), some (.inr (.inr x1)), some (.inl x2), some (.inr (.inr x3)), some (.inl x4), o5, o6] [] H = (bif decide ((x4 : Int32) < (1 : Int32)) then G 93 91 [some (.inr (.inr x0)), some (.inr (.inr x1)), some (.inl x2), some (.inr (.inr x3)), some (.inl 0), o5, o6] [] H else (G 79 0 [some (.inl (((x2 + 1) - x4)))] [] H).bind fun u1 => (asI u1.1).bind fun i2 => G 93 25 [some (.inr (.inr x0)), some (.inr (.inr x1)), some (.inl x2), some (.inr (.inr x3)), some (.inl x4), some (.inl i2), some (.inl 0)] [] u1.2) := by
  refine Eq.trans (e1 hG PT_93 k93_5 _ _ _) ?_
  show G 93 7 [some (.inr (.inr x0)), some (.inr (.inr x1)), some (.inl x2), some (.inr (.inr x3)), some (.inl x4), o5, o6] [.inl x4] H = _
  refine Eq.trans (e1 hG PT_93 k93_7 _ _ _) ?_
  show G 93 8 [some (.inr (.inr x0)), some (.inr (.inr x1)), some (.inl x2), some (.inr (.inr x3)), some (.inl x4), o5, o6] [.inl 1, .inl x4] H = _
  refine Eq.trans (e1 hG PT_93 k93_8 _ _ _) ?_
  refine bfc ?_ ?_
  · show G 93 88 [some (.inr (.inr x0)), some (.inr (.inr x1)), some (.inl x2), some (.inr (.inr x3)), some (.inl x4), o5, o6] [] H = _
    refine Eq.trans (e1 hG PT_93 k93_88 _ _ _) ?_
    show G 93 89 [some (.inr (.inr x0)), some (.inr (.inr x1)), some (.inl x2), some (.inr (.inr x3)), some (.inl x4), o5, o6] [.inl 0] H = _
    refine Eq.trans (e1 hG PT_93 k93_89 _ _ _) ?_
    rfl
  · show G 93 11 [some (.inr (.inr x0)), some (.inr (.inr x1)), some (.inl x2), some (.inr (.inr x3)), some (.inl x4), o5, o6] [] H = _
    refine Eq.trans (e1 hG PT_93 k93_11 _ _ _) ?_
    show G 93 12 [some (.inr (.inr x0)), some (.inr (.inr x1)), some (.inl x2), some (.inr (.inr x3)), some (.inl x4), o5, o6] [.inl x2] H = _
    refine Eq.trans (e1 hG PT_93 k93_12 _ _ _) ?_
    show G 93 13 [some (.inr (.inr x0)), some (.inr (.inr x1)), some (.inl x2), some (.inr (.inr x3)), some (.inl x4), o5, o6] [.inl 1, .inl x2] H = _
    refine Eq.trans (e1 hG PT_93 k93_13 _ _ _) ?_
    show G 93 14 [some (.inr (.inr x0)), some (.inr (.inr x1)), some (.inl x2), some (.inr (.inr x3)), some (.inl x4), o5, o6] [.inl (x2 + 1)] H = _
    refine Eq.trans (e1 hG PT_93 k93_14 _ _ _) ?_
    show G 93 16 [some (.inr (.inr x0)), some (.inr (.inr x1)), some (.inl x2), some (.inr (.inr x3)), some (.inl x4), o5, o6] [.inl x4, .inl (x2 + 1)] H = _
    refine Eq.trans (e1 hG PT_93 k93_16 _ _ _) ?_
    show G 93 17 [some (.inr (.inr x0)), some (.inr (.inr x1)), some (.inl x2), some (.inr (.inr x3)), some (.inl x4), o5, o6] [.inl ((x2 + 1) - x4)] H = _
    refine Eq.trans (e1 hG PT_93 k93_17 _ _ _) ?_
    refine bdc fun u1 => ?_
    refine bdc fun i2 => ?_
    show G 93 20 [some (.inr (.inr x0)), some (.inr (.inr x1)), some (.inl x2), some (.inr (.inr x3)), some (.inl x4), o5, o6] [.inl i2] u1.2 = _
    refine Eq.trans (e1 hG PT_93 k93_20 _ _ _) ?_
    show G 93 22 [some (.inr (.inr x0)), some (.inr (.inr x1)), some (.inl x2), some (.inr (.inr x3)), some (.inl x4), some (.inl i2), o6] [] u1.2 = _
    refine Eq.trans (e1 hG PT_93 k93_22 _ _ _) ?_
    show G 93 23 [some (.inr (.inr x0)), some (.inr (.inr x1)), some (.inl x2), some (.inr (.inr x3)), some (.inl x4), some (.inl i2), o6] [.inl 0] u1.2 = _
    refine Eq.trans (e1 hG PT_93 k93_23 _ _ _) ?_
    rfl
theorem b93_25 {G : AG} (hG : FIX G) (x0 : Nat) (x1 : Nat) (x2 : Int32) (x3 : Nat) (x4 : Int32) (x5 : Int32) (x6 : Int32) (H : Hp) : G 93 25 [some (.inr (.inr x0)), some (.inr (.inr x1)), some (.inl x2), some (.inr (.inr x3)), some (.inl x4), some (.inl x5), some (.inl x6)] [] H = (bif decide ((x5 : Int32) ≤ (x6 : Int32)) then (hgR H x0 14).bind fun r1 => (hgR H x0 17).bind fun r2 => (hgR H x3 0).bind fun r3 => (hgI H x3 3).bind fun i4 => bif Nat.beq (H.1 r1).1 5 then (G 80 0 [some (.inr (.inr r1)), some (.inr (.inr r2)), some (.inl x5), some (.inr (.inr r3)), some (.inl i4), none, none, none, none, none, none] [] H).bind fun u5 => (asV u5.1).bind fun _ => G 93 5 [some (.inr (.inr x0)), some (.inr (.inr x1)), some (.inl x2), some (.inr (.inr x3)), some (.inl (x4 + (-1))), some (.inl x5), some (.inl x6)] [] u5.2 else none else (hgR H x0 17).bind fun r6 => (hAJ H r6 x6).bind fun j7 => bif Nat.beq (H.1 x3).1 3 then (G 90 0 [some (.inr (.inr x3))] [] H).bind fun u8 => (asI u8.1).bind fun i9 => bif Nat.beq (u8.2.1 x0).1 6 then (G 94 0 [some (.inr (.inr x0)), some (.inl x4), some (.inr (.inr x1)), some (.inl x6), some (.inl i9), none, none, none, none] [] u8.2).bind fun u10 => (asJ u10.1).bind fun j11 => (hSJ u10.2 r6 x6 ((j7 + j11))).bind fun H12 => G 93 25 [some (.inr (.inr x0)), some (.inr (.inr x1)), some (.inl x2), some (.inr (.inr x3)), some (.inl x4), some (.inl x5), some (.inl (x6 + 1))] [] H12 else none else none) := by
  refine Eq.trans (e1 hG PT_93 k93_25 _ _ _) ?_
  show G 93 27 [some (.inr (.inr x0)), some (.inr (.inr x1)), some (.inl x2), some (.inr (.inr x3)), some (.inl x4), some (.inl x5), some (.inl x6)] [.inl x6] H = _
  refine Eq.trans (e1 hG PT_93 k93_27 _ _ _) ?_
  show G 93 29 [some (.inr (.inr x0)), some (.inr (.inr x1)), some (.inl x2), some (.inr (.inr x3)), some (.inl x4), some (.inl x5), some (.inl x6)] [.inl x5, .inl x6] H = _
  refine Eq.trans (e1 hG PT_93 k93_29 _ _ _) ?_
  refine bfc ?_ ?_
  · show G 93 61 [some (.inr (.inr x0)), some (.inr (.inr x1)), some (.inl x2), some (.inr (.inr x3)), some (.inl x4), some (.inl x5), some (.inl x6)] [] H = _
    refine Eq.trans (e1 hG PT_93 k93_61 _ _ _) ?_
    show G 93 62 [some (.inr (.inr x0)), some (.inr (.inr x1)), some (.inl x2), some (.inr (.inr x3)), some (.inl x4), some (.inl x5), some (.inl x6)] [.inr (.inr x0)] H = _
    refine Eq.trans (e1 hG PT_93 k93_62 _ _ _) ?_
    refine bdc fun r1 => ?_
    show G 93 65 [some (.inr (.inr x0)), some (.inr (.inr x1)), some (.inl x2), some (.inr (.inr x3)), some (.inl x4), some (.inl x5), some (.inl x6)] [.inr (.inr r1)] H = _
    refine Eq.trans (e1 hG PT_93 k93_65 _ _ _) ?_
    show G 93 66 [some (.inr (.inr x0)), some (.inr (.inr x1)), some (.inl x2), some (.inr (.inr x3)), some (.inl x4), some (.inl x5), some (.inl x6)] [.inr (.inr x0), .inr (.inr r1)] H = _
    refine Eq.trans (e1 hG PT_93 k93_66 _ _ _) ?_
    refine bdc fun r2 => ?_
    show G 93 69 [some (.inr (.inr x0)), some (.inr (.inr x1)), some (.inl x2), some (.inr (.inr x3)), some (.inl x4), some (.inl x5), some (.inl x6)] [.inr (.inr r2), .inr (.inr r1)] H = _
    refine Eq.trans (e1 hG PT_93 k93_69 _ _ _) ?_
    show G 93 71 [some (.inr (.inr x0)), some (.inr (.inr x1)), some (.inl x2), some (.inr (.inr x3)), some (.inl x4), some (.inl x5), some (.inl x6)] [.inl x5, .inr (.inr r2), .inr (.inr r1)] H = _
    refine Eq.trans (e1 hG PT_93 k93_71 _ _ _) ?_
    show G 93 72 [some (.inr (.inr x0)), some (.inr (.inr x1)), some (.inl x2), some (.inr (.inr x3)), some (.inl x4), some (.inl x5), some (.inl x6)] [.inr (.inr x3), .inl x5, .inr (.inr r2), .inr (.inr r1)] H = _
    refine Eq.trans (e1 hG PT_93 k93_72 _ _ _) ?_
    refine bdc fun r3 => ?_
    show G 93 75 [some (.inr (.inr x0)), some (.inr (.inr x1)), some (.inl x2), some (.inr (.inr x3)), some (.inl x4), some (.inl x5), some (.inl x6)] [.inr (.inr r3), .inl x5, .inr (.inr r2), .inr (.inr r1)] H = _
    refine Eq.trans (e1 hG PT_93 k93_75 _ _ _) ?_
    show G 93 76 [some (.inr (.inr x0)), some (.inr (.inr x1)), some (.inl x2), some (.inr (.inr x3)), some (.inl x4), some (.inl x5), some (.inl x6)] [.inr (.inr x3), .inr (.inr r3), .inl x5, .inr (.inr r2), .inr (.inr r1)] H = _
    refine Eq.trans (e1 hG PT_93 k93_76 _ _ _) ?_
    refine bdc fun i4 => ?_
    show G 93 79 [some (.inr (.inr x0)), some (.inr (.inr x1)), some (.inl x2), some (.inr (.inr x3)), some (.inl x4), some (.inl x5), some (.inl x6)] [.inl i4, .inr (.inr r3), .inl x5, .inr (.inr r2), .inr (.inr r1)] H = _
    refine Eq.trans (e1 hG PT_93 k93_79 _ _ _) ?_
    refine bfc ?_ ?_
    · refine bdc fun u5 => ?_
      refine bdc fun _ => ?_
      show G 93 82 [some (.inr (.inr x0)), some (.inr (.inr x1)), some (.inl x2), some (.inr (.inr x3)), some (.inl x4), some (.inl x5), some (.inl x6)] [] u5.2 = _
      refine Eq.trans (e1 hG PT_93 k93_82 _ _ _) ?_
      show G 93 85 [some (.inr (.inr x0)), some (.inr (.inr x1)), some (.inl x2), some (.inr (.inr x3)), some (.inl (x4 + (-1))), some (.inl x5), some (.inl x6)] [] u5.2 = _
      refine Eq.trans (e1 hG PT_93 k93_85 _ _ _) ?_
      rfl
    · rfl
  · show G 93 32 [some (.inr (.inr x0)), some (.inr (.inr x1)), some (.inl x2), some (.inr (.inr x3)), some (.inl x4), some (.inl x5), some (.inl x6)] [] H = _
    refine Eq.trans (e1 hG PT_93 k93_32 _ _ _) ?_
    show G 93 33 [some (.inr (.inr x0)), some (.inr (.inr x1)), some (.inl x2), some (.inr (.inr x3)), some (.inl x4), some (.inl x5), some (.inl x6)] [.inr (.inr x0)] H = _
    refine Eq.trans (e1 hG PT_93 k93_33 _ _ _) ?_
    refine bdc fun r6 => ?_
    show G 93 36 [some (.inr (.inr x0)), some (.inr (.inr x1)), some (.inl x2), some (.inr (.inr x3)), some (.inl x4), some (.inl x5), some (.inl x6)] [.inr (.inr r6)] H = _
    refine Eq.trans (e1 hG PT_93 k93_36 _ _ _) ?_
    show G 93 38 [some (.inr (.inr x0)), some (.inr (.inr x1)), some (.inl x2), some (.inr (.inr x3)), some (.inl x4), some (.inl x5), some (.inl x6)] [.inl x6, .inr (.inr r6)] H = _
    refine Eq.trans (e1 hG PT_93 k93_38 _ _ _) ?_
    show G 93 39 [some (.inr (.inr x0)), some (.inr (.inr x1)), some (.inl x2), some (.inr (.inr x3)), some (.inl x4), some (.inl x5), some (.inl x6)] [.inl x6, .inr (.inr r6), .inl x6, .inr (.inr r6)] H = _
    refine Eq.trans (e1 hG PT_93 k93_39 _ _ _) ?_
    refine bdc fun j7 => ?_
    show G 93 40 [some (.inr (.inr x0)), some (.inr (.inr x1)), some (.inl x2), some (.inr (.inr x3)), some (.inl x4), some (.inl x5), some (.inl x6)] [.inr (.inl j7), .inl x6, .inr (.inr r6)] H = _
    refine Eq.trans (e1 hG PT_93 k93_40 _ _ _) ?_
    show G 93 41 [some (.inr (.inr x0)), some (.inr (.inr x1)), some (.inl x2), some (.inr (.inr x3)), some (.inl x4), some (.inl x5), some (.inl x6)] [.inr (.inr x0), .inr (.inl j7), .inl x6, .inr (.inr r6)] H = _
    refine Eq.trans (e1 hG PT_93 k93_41 _ _ _) ?_
    show G 93 43 [some (.inr (.inr x0)), some (.inr (.inr x1)), some (.inl x2), some (.inr (.inr x3)), some (.inl x4), some (.inl x5), some (.inl x6)] [.inl x4, .inr (.inr x0), .inr (.inl j7), .inl x6, .inr (.inr r6)] H = _
    refine Eq.trans (e1 hG PT_93 k93_43 _ _ _) ?_
    show G 93 44 [some (.inr (.inr x0)), some (.inr (.inr x1)), some (.inl x2), some (.inr (.inr x3)), some (.inl x4), some (.inl x5), some (.inl x6)] [.inr (.inr x1), .inl x4, .inr (.inr x0), .inr (.inl j7), .inl x6, .inr (.inr r6)] H = _
    refine Eq.trans (e1 hG PT_93 k93_44 _ _ _) ?_
    show G 93 46 [some (.inr (.inr x0)), some (.inr (.inr x1)), some (.inl x2), some (.inr (.inr x3)), some (.inl x4), some (.inl x5), some (.inl x6)] [.inl x6, .inr (.inr x1), .inl x4, .inr (.inr x0), .inr (.inl j7), .inl x6, .inr (.inr r6)] H = _
    refine Eq.trans (e1 hG PT_93 k93_46 _ _ _) ?_
    show G 93 47 [some (.inr (.inr x0)), some (.inr (.inr x1)), some (.inl x2), some (.inr (.inr x3)), some (.inl x4), some (.inl x5), some (.inl x6)] [.inr (.inr x3), .inl x6, .inr (.inr x1), .inl x4, .inr (.inr x0), .inr (.inl j7), .inl x6, .inr (.inr r6)] H = _
    refine Eq.trans (e1 hG PT_93 k93_47 _ _ _) ?_
    refine bfc ?_ ?_
    · refine bdc fun u8 => ?_
      refine bdc fun i9 => ?_
      show G 93 50 [some (.inr (.inr x0)), some (.inr (.inr x1)), some (.inl x2), some (.inr (.inr x3)), some (.inl x4), some (.inl x5), some (.inl x6)] [.inl i9, .inl x6, .inr (.inr x1), .inl x4, .inr (.inr x0), .inr (.inl j7), .inl x6, .inr (.inr r6)] u8.2 = _
      refine Eq.trans (e1 hG PT_93 k93_50 _ _ _) ?_
      refine bfc ?_ ?_
      · refine bdc fun u10 => ?_
        refine bdc fun j11 => ?_
        show G 93 53 [some (.inr (.inr x0)), some (.inr (.inr x1)), some (.inl x2), some (.inr (.inr x3)), some (.inl x4), some (.inl x5), some (.inl x6)] [.inr (.inl j11), .inr (.inl j7), .inl x6, .inr (.inr r6)] u10.2 = _
        refine Eq.trans (e1 hG PT_93 k93_53 _ _ _) ?_
        show G 93 54 [some (.inr (.inr x0)), some (.inr (.inr x1)), some (.inl x2), some (.inr (.inr x3)), some (.inl x4), some (.inl x5), some (.inl x6)] [.inr (.inl (j7 + j11)), .inl x6, .inr (.inr r6)] u10.2 = _
        refine Eq.trans (e1 hG PT_93 k93_54 _ _ _) ?_
        refine bdc fun H12 => ?_
        show G 93 55 [some (.inr (.inr x0)), some (.inr (.inr x1)), some (.inl x2), some (.inr (.inr x3)), some (.inl x4), some (.inl x5), some (.inl x6)] [] H12 = _
        refine Eq.trans (e1 hG PT_93 k93_55 _ _ _) ?_
        show G 93 58 [some (.inr (.inr x0)), some (.inr (.inr x1)), some (.inl x2), some (.inr (.inr x3)), some (.inl x4), some (.inl x5), some (.inl (x6 + 1))] [] H12 = _
        refine Eq.trans (e1 hG PT_93 k93_58 _ _ _) ?_
        rfl
      · rfl
    · rfl
theorem b93_91 {G : AG} (hG : FIX G) (x0 : Nat) (x1 : Nat) (x2 : Int32) (x3 : Nat) (x4 : Int32) (o5 : Option AV) (o6 : Option AV) (H : Hp) : G 93 91 [some (.inr (.inr x0)), some (.inr (.inr x1)), some (.inl x2), some (.inr (.inr x3)), some (.inl x4), o5, o6] [] H = (bif decide ((252 : Int32) ≤ (x4 : Int32)) then some (none, H) else (hgR H x0 17).bind fun r1 => (hAJ H r1 x4).bind fun j2 => ((if (60 : Int64) = 0 then none else some (j2 - j2 / 60 * 60))).bind fun j3 => bif decide (((lg_cmp j3 0) : Int32) = 0) then G 93 120 [some (.inr (.inr x0)), some (.inr (.inr x1)), some (.inl x2), some (.inr (.inr x3)), some (.inl x4), o5, o6] [] H else (hpZ H x0 20 1).bind fun H4 => G 93 120 [some (.inr (.inr x0)), some (.inr (.inr x1)), some (.inl x2), some (.inr (.inr x3)), some (.inl x4), o5, o6] [] H4) := by
  refine Eq.trans (e1 hG PT_93 k93_91 _ _ _) ?_
  show G 93 93 [some (.inr (.inr x0)), some (.inr (.inr x1)), some (.inl x2), some (.inr (.inr x3)), some (.inl x4), o5, o6] [.inl x4] H = _
  refine Eq.trans (e1 hG PT_93 k93_93 _ _ _) ?_
  show G 93 96 [some (.inr (.inr x0)), some (.inr (.inr x1)), some (.inl x2), some (.inr (.inr x3)), some (.inl x4), o5, o6] [.inl 252, .inl x4] H = _
  refine Eq.trans (e1 hG PT_93 k93_96 _ _ _) ?_
  refine bfc ?_ ?_
  · show G 93 139 [some (.inr (.inr x0)), some (.inr (.inr x1)), some (.inl x2), some (.inr (.inr x3)), some (.inl x4), o5, o6] [] H = _
    exact e1 hG PT_93 k93_139 _ _ _
  · show G 93 99 [some (.inr (.inr x0)), some (.inr (.inr x1)), some (.inl x2), some (.inr (.inr x3)), some (.inl x4), o5, o6] [] H = _
    refine Eq.trans (e1 hG PT_93 k93_99 _ _ _) ?_
    show G 93 100 [some (.inr (.inr x0)), some (.inr (.inr x1)), some (.inl x2), some (.inr (.inr x3)), some (.inl x4), o5, o6] [.inr (.inr x0)] H = _
    refine Eq.trans (e1 hG PT_93 k93_100 _ _ _) ?_
    refine bdc fun r1 => ?_
    show G 93 103 [some (.inr (.inr x0)), some (.inr (.inr x1)), some (.inl x2), some (.inr (.inr x3)), some (.inl x4), o5, o6] [.inr (.inr r1)] H = _
    refine Eq.trans (e1 hG PT_93 k93_103 _ _ _) ?_
    show G 93 105 [some (.inr (.inr x0)), some (.inr (.inr x1)), some (.inl x2), some (.inr (.inr x3)), some (.inl x4), o5, o6] [.inl x4, .inr (.inr r1)] H = _
    refine Eq.trans (e1 hG PT_93 k93_105 _ _ _) ?_
    refine bdc fun j2 => ?_
    show G 93 106 [some (.inr (.inr x0)), some (.inr (.inr x1)), some (.inl x2), some (.inr (.inr x3)), some (.inl x4), o5, o6] [.inr (.inl j2)] H = _
    refine Eq.trans (e1 hG PT_93 k93_106 _ _ _) ?_
    show G 93 109 [some (.inr (.inr x0)), some (.inr (.inr x1)), some (.inl x2), some (.inr (.inr x3)), some (.inl x4), o5, o6] [.inr (.inl 60), .inr (.inl j2)] H = _
    refine Eq.trans (e1 hG PT_93 k93_109 _ _ _) ?_
    show ((if (60 : Int64) = 0 then none else some (j2 - j2 / 60 * 60))).bind (fun j3 => G 93 110 [some (.inr (.inr x0)), some (.inr (.inr x1)), some (.inl x2), some (.inr (.inr x3)), some (.inl x4), o5, o6] [.inr (.inl j3)] H) = _
    refine bdc (q := (if (60 : Int64) = 0 then none else some (j2 - j2 / 60 * 60))) fun j3 => ?_
    show G 93 110 [some (.inr (.inr x0)), some (.inr (.inr x1)), some (.inl x2), some (.inr (.inr x3)), some (.inl x4), o5, o6] [.inr (.inl j3)] H = _
    refine Eq.trans (e1 hG PT_93 k93_110 _ _ _) ?_
    show G 93 111 [some (.inr (.inr x0)), some (.inr (.inr x1)), some (.inl x2), some (.inr (.inr x3)), some (.inl x4), o5, o6] [.inr (.inl 0), .inr (.inl j3)] H = _
    refine Eq.trans (e1 hG PT_93 k93_111 _ _ _) ?_
    show G 93 112 [some (.inr (.inr x0)), some (.inr (.inr x1)), some (.inl x2), some (.inr (.inr x3)), some (.inl x4), o5, o6] [.inl (lg_cmp j3 0)] H = _
    refine Eq.trans (e1 hG PT_93 k93_112 _ _ _) ?_
    refine bfc ?_ ?_
    · rfl
    · show G 93 115 [some (.inr (.inr x0)), some (.inr (.inr x1)), some (.inl x2), some (.inr (.inr x3)), some (.inl x4), o5, o6] [] H = _
      refine Eq.trans (e1 hG PT_93 k93_115 _ _ _) ?_
      show G 93 116 [some (.inr (.inr x0)), some (.inr (.inr x1)), some (.inl x2), some (.inr (.inr x3)), some (.inl x4), o5, o6] [.inr (.inr x0)] H = _
      refine Eq.trans (e1 hG PT_93 k93_116 _ _ _) ?_
      show G 93 117 [some (.inr (.inr x0)), some (.inr (.inr x1)), some (.inl x2), some (.inr (.inr x3)), some (.inl x4), o5, o6] [.inl 1, .inr (.inr x0)] H = _
      refine Eq.trans (e1 hG PT_93 k93_117 _ _ _) ?_
      refine bdc fun H4 => ?_
      rfl
theorem b93_120 {G : AG} (hG : FIX G) (x0 : Nat) (x1 : Nat) (x2 : Int32) (x3 : Nat) (x4 : Int32) (o5 : Option AV) (o6 : Option AV) (H : Hp) : G 93 120 [some (.inr (.inr x0)), some (.inr (.inr x1)), some (.inl x2), some (.inr (.inr x3)), some (.inl x4), o5, o6] [] H = ((hgR H x0 17).bind fun r1 => (hAJ H r1 x4).bind fun j2 => ((if (60 : Int64) = 0 then none else some (j2 / 60))).bind fun j3 => (hSJ H r1 x4 j3).bind fun H4 => G 93 91 [some (.inr (.inr x0)), some (.inr (.inr x1)), some (.inl x2), some (.inr (.inr x3)), some (.inl (x4 + 1)), o5, o6] [] H4) := by
  refine Eq.trans (e1 hG PT_93 k93_120 _ _ _) ?_
  show G 93 121 [some (.inr (.inr x0)), some (.inr (.inr x1)), some (.inl x2), some (.inr (.inr x3)), some (.inl x4), o5, o6] [.inr (.inr x0)] H = _
  refine Eq.trans (e1 hG PT_93 k93_121 _ _ _) ?_
  refine bdc fun r1 => ?_
  show G 93 124 [some (.inr (.inr x0)), some (.inr (.inr x1)), some (.inl x2), some (.inr (.inr x3)), some (.inl x4), o5, o6] [.inr (.inr r1)] H = _
  refine Eq.trans (e1 hG PT_93 k93_124 _ _ _) ?_
  show G 93 126 [some (.inr (.inr x0)), some (.inr (.inr x1)), some (.inl x2), some (.inr (.inr x3)), some (.inl x4), o5, o6] [.inl x4, .inr (.inr r1)] H = _
  refine Eq.trans (e1 hG PT_93 k93_126 _ _ _) ?_
  show G 93 127 [some (.inr (.inr x0)), some (.inr (.inr x1)), some (.inl x2), some (.inr (.inr x3)), some (.inl x4), o5, o6] [.inl x4, .inr (.inr r1), .inl x4, .inr (.inr r1)] H = _
  refine Eq.trans (e1 hG PT_93 k93_127 _ _ _) ?_
  refine bdc fun j2 => ?_
  show G 93 128 [some (.inr (.inr x0)), some (.inr (.inr x1)), some (.inl x2), some (.inr (.inr x3)), some (.inl x4), o5, o6] [.inr (.inl j2), .inl x4, .inr (.inr r1)] H = _
  refine Eq.trans (e1 hG PT_93 k93_128 _ _ _) ?_
  show G 93 131 [some (.inr (.inr x0)), some (.inr (.inr x1)), some (.inl x2), some (.inr (.inr x3)), some (.inl x4), o5, o6] [.inr (.inl 60), .inr (.inl j2), .inl x4, .inr (.inr r1)] H = _
  refine Eq.trans (e1 hG PT_93 k93_131 _ _ _) ?_
  show ((if (60 : Int64) = 0 then none else some (j2 / 60))).bind (fun j3 => G 93 132 [some (.inr (.inr x0)), some (.inr (.inr x1)), some (.inl x2), some (.inr (.inr x3)), some (.inl x4), o5, o6] [.inr (.inl j3), .inl x4, .inr (.inr r1)] H) = _
  refine bdc (q := (if (60 : Int64) = 0 then none else some (j2 / 60))) fun j3 => ?_
  show G 93 132 [some (.inr (.inr x0)), some (.inr (.inr x1)), some (.inl x2), some (.inr (.inr x3)), some (.inl x4), o5, o6] [.inr (.inl j3), .inl x4, .inr (.inr r1)] H = _
  refine Eq.trans (e1 hG PT_93 k93_132 _ _ _) ?_
  refine bdc fun H4 => ?_
  show G 93 133 [some (.inr (.inr x0)), some (.inr (.inr x1)), some (.inl x2), some (.inr (.inr x3)), some (.inl x4), o5, o6] [] H4 = _
  refine Eq.trans (e1 hG PT_93 k93_133 _ _ _) ?_
  show G 93 136 [some (.inr (.inr x0)), some (.inr (.inr x1)), some (.inl x2), some (.inr (.inr x3)), some (.inl (x4 + 1)), o5, o6] [] H4 = _
  refine Eq.trans (e1 hG PT_93 k93_136 _ _ _) ?_
  rfl
-- StepsAhead$Reckoner.factorOfPower(I[JII)J
theorem PT_94 : PT 94 = pt94 := rfl
theorem k94_0 : lkp pt94 0 = iP 1 (fK (.inr (.inl 0))) := rfl
theorem k94_1 : lkp pt94 1 = iP 3 (fLst 5) := rfl
theorem k94_3 : lkp pt94 3 = iP 4 (fAld 0) := rfl
theorem k94_4 : lkp pt94 4 = iRR 7 (gtR 14) := rfl
theorem k94_7 : lkp pt94 7 = iP 8 (fIld 3) := rfl
theorem k94_8 : lkp pt94 8 = iP 10 (fIld 4) := rfl
theorem k94_10 : lkp pt94 10 = iCK 13 5 91 3 3 1 := rfl
theorem k94_13 : lkp pt94 13 = iB 16 20 (b1 (fun x => decide (x = 0))) := rfl
theorem k94_16 : lkp pt94 16 = iP 17 (fIld 3) := rfl
theorem k94_17 : lkp pt94 17 = iP 21 fGo := rfl
theorem k94_20 : lkp pt94 20 = iP 21 (fK (.inl (-1))) := rfl
theorem k94_21 : lkp pt94 21 = iP 23 (fIst 7) := rfl
theorem k94_23 : lkp pt94 23 = iP 24 (fK (.inl 0)) := rfl
theorem k94_24 : lkp pt94 24 = iP 26 (fIst 8) := rfl
theorem k94_26 : lkp pt94 26 = iP 28 (fIld 8) := rfl
theorem k94_28 : lkp pt94 28 = iP 29 (fK (.inl 5)) := rfl
theorem k94_29 : lkp pt94 29 = iB 32 78 (b2 (fun x y => decide (y ≤ x))) := rfl
theorem k94_32 : lkp pt94 32 = iP 34 (fIld 7) := rfl
theorem k94_34 : lkp pt94 34 = iB 37 78 (b1 (fun x => decide (x < 0))) := rfl
theorem k94_37 : lkp pt94 37 = iP 39 (fJld 5) := rfl
theorem k94_39 : lkp pt94 39 = iP 42 (fK (.inr (.inr 3))) := rfl
theorem k94_42 : lkp pt94 42 = iP 44 (fIld 8) := rfl
theorem k94_44 : lkp pt94 44 = iP 46 (fK (.inl 6)) := rfl
theorem k94_46 : lkp pt94 46 = iP 47 (f2I (fun x y => x * y)) := rfl
theorem k94_47 : lkp pt94 47 = iP 48 (fIld 1) := rfl
theorem k94_48 : lkp pt94 48 = iP 49 (f2I (fun x y => x + y)) := rfl
theorem k94_49 : lkp pt94 49 = iRI 50 qAI := rfl
theorem k94_50 : lkp pt94 50 = iP 51 fI2l := rfl
theorem k94_51 : lkp pt94 51 = iP 52 (fAld 2) := rfl
theorem k94_52 : lkp pt94 52 = iP 54 (fIld 7) := rfl
theorem k94_54 : lkp pt94 54 = iRJ 55 qAJ := rfl
theorem k94_55 : lkp pt94 55 = iP 56 (f2J (fun x y => x * y)) := rfl
theorem k94_56 : lkp pt94 56 = iP 57 (f2J (fun x y => x + y)) := rfl
theorem k94_57 : lkp pt94 57 = iP 59 (fLst 5) := rfl
theorem k94_59 : lkp pt94 59 = iP 60 (fAld 0) := rfl
theorem k94_60 : lkp pt94 60 = iRR 63 (gtR 14) := rfl
theorem k94_63 : lkp pt94 63 = iP 65 (fIld 7) := rfl
theorem k94_65 : lkp pt94 65 = iP 67 (fIld 4) := rfl
theorem k94_67 : lkp pt94 67 = iCK 70 5 8 3 3 1 := rfl
theorem k94_70 : lkp pt94 70 = iP 72 (fIst 7) := rfl
theorem k94_72 : lkp pt94 72 = iP 75 (fInc 8 1) := rfl
theorem k94_75 : lkp pt94 75 = iP 26 fGo := rfl
theorem k94_78 : lkp pt94 78 = iP 80 (fJld 5) := rfl
theorem k94_80 : lkp pt94 80 = iRet rJ := rfl
theorem b94_0 {G : AG} (hG : FIX G) (x0 : Nat) (x1 : Int32) (x2 : Nat) (x3 : Int32) (x4 : Int32) (H : Hp) : G 94 0 [some (.inr (.inr x0)), some (.inl x1), some (.inr (.inr x2)), some (.inl x3), some (.inl x4), none, none, none, none] [] H = ((hgR H x0 14).bind fun r1 => bif Nat.beq (H.1 r1).1 5 then (G 91 0 [some (.inr (.inr r1)), some (.inl x3), some (.inl x4)] [] H).bind fun u2 => (asI u2.1).bind fun i3 => bif decide ((i3 : Int32) = 0) then G 94 21 [some (.inr (.inr x0)), some (.inl x1), some (.inr (.inr x2)), some (.inl x3), some (.inl x4), some (.inr (.inl 0)), none, none, none] [.inl (-1)] u2.2 else G 94 21 [some (.inr (.inr x0)), some (.inl x1), some (.inr (.inr x2)), some (.inl x3), some (.inl x4), some (.inr (.inl 0)), none, none, none] [.inl x3] u2.2 else none) := by
  refine Eq.trans (e1 hG PT_94 k94_0 _ _ _) ?_
  show G 94 1 [some (.inr (.inr x0)), some (.inl x1), some (.inr (.inr x2)), some (.inl x3), some (.inl x4), none, none, none, none] [.inr (.inl 0)] H = _
  refine Eq.trans (e1 hG PT_94 k94_1 _ _ _) ?_
  show G 94 3 [some (.inr (.inr x0)), some (.inl x1), some (.inr (.inr x2)), some (.inl x3), some (.inl x4), some (.inr (.inl 0)), none, none, none] [] H = _
  refine Eq.trans (e1 hG PT_94 k94_3 _ _ _) ?_
  show G 94 4 [some (.inr (.inr x0)), some (.inl x1), some (.inr (.inr x2)), some (.inl x3), some (.inl x4), some (.inr (.inl 0)), none, none, none] [.inr (.inr x0)] H = _
  refine Eq.trans (e1 hG PT_94 k94_4 _ _ _) ?_
  refine bdc fun r1 => ?_
  show G 94 7 [some (.inr (.inr x0)), some (.inl x1), some (.inr (.inr x2)), some (.inl x3), some (.inl x4), some (.inr (.inl 0)), none, none, none] [.inr (.inr r1)] H = _
  refine Eq.trans (e1 hG PT_94 k94_7 _ _ _) ?_
  show G 94 8 [some (.inr (.inr x0)), some (.inl x1), some (.inr (.inr x2)), some (.inl x3), some (.inl x4), some (.inr (.inl 0)), none, none, none] [.inl x3, .inr (.inr r1)] H = _
  refine Eq.trans (e1 hG PT_94 k94_8 _ _ _) ?_
  show G 94 10 [some (.inr (.inr x0)), some (.inl x1), some (.inr (.inr x2)), some (.inl x3), some (.inl x4), some (.inr (.inl 0)), none, none, none] [.inl x4, .inl x3, .inr (.inr r1)] H = _
  refine Eq.trans (e1 hG PT_94 k94_10 _ _ _) ?_
  refine bfc ?_ ?_
  · refine bdc fun u2 => ?_
    refine bdc fun i3 => ?_
    show G 94 13 [some (.inr (.inr x0)), some (.inl x1), some (.inr (.inr x2)), some (.inl x3), some (.inl x4), some (.inr (.inl 0)), none, none, none] [.inl i3] u2.2 = _
    refine Eq.trans (e1 hG PT_94 k94_13 _ _ _) ?_
    refine bfc ?_ ?_
    · show G 94 20 [some (.inr (.inr x0)), some (.inl x1), some (.inr (.inr x2)), some (.inl x3), some (.inl x4), some (.inr (.inl 0)), none, none, none] [] u2.2 = _
      refine Eq.trans (e1 hG PT_94 k94_20 _ _ _) ?_
      rfl
    · show G 94 16 [some (.inr (.inr x0)), some (.inl x1), some (.inr (.inr x2)), some (.inl x3), some (.inl x4), some (.inr (.inl 0)), none, none, none] [] u2.2 = _
      refine Eq.trans (e1 hG PT_94 k94_16 _ _ _) ?_
      show G 94 17 [some (.inr (.inr x0)), some (.inl x1), some (.inr (.inr x2)), some (.inl x3), some (.inl x4), some (.inr (.inl 0)), none, none, none] [.inl x3] u2.2 = _
      refine Eq.trans (e1 hG PT_94 k94_17 _ _ _) ?_
      rfl
  · rfl
theorem b94_21 {G : AG} (hG : FIX G) (x0 : Nat) (x1 : Int32) (x2 : Nat) (x3 : Int32) (x4 : Int32) (x5 : Int64) (s0 : Int32) (H : Hp) : G 94 21 [some (.inr (.inr x0)), some (.inl x1), some (.inr (.inr x2)), some (.inl x3), some (.inl x4), some (.inr (.inl x5)), none, none, none] [.inl s0] H = (G 94 26 [some (.inr (.inr x0)), some (.inl x1), some (.inr (.inr x2)), some (.inl x3), some (.inl x4), some (.inr (.inl x5)), none, some (.inl s0), some (.inl 0)] [] H) := by
  refine Eq.trans (e1 hG PT_94 k94_21 _ _ _) ?_
  show G 94 23 [some (.inr (.inr x0)), some (.inl x1), some (.inr (.inr x2)), some (.inl x3), some (.inl x4), some (.inr (.inl x5)), none, some (.inl s0), none] [] H = _
  refine Eq.trans (e1 hG PT_94 k94_23 _ _ _) ?_
  show G 94 24 [some (.inr (.inr x0)), some (.inl x1), some (.inr (.inr x2)), some (.inl x3), some (.inl x4), some (.inr (.inl x5)), none, some (.inl s0), none] [.inl 0] H = _
  refine Eq.trans (e1 hG PT_94 k94_24 _ _ _) ?_
  rfl
theorem b94_26 {G : AG} (hG : FIX G) (x0 : Nat) (x1 : Int32) (x2 : Nat) (x3 : Int32) (x4 : Int32) (x5 : Int64) (x7 : Int32) (x8 : Int32) (H : Hp) : G 94 26 [some (.inr (.inr x0)), some (.inl x1), some (.inr (.inr x2)), some (.inl x3), some (.inl x4), some (.inr (.inl x5)), none, some (.inl x7), some (.inl x8)] [] H = (bif decide ((5 : Int32) ≤ (x8 : Int32)) then G 94 78 [some (.inr (.inr x0)), some (.inl x1), some (.inr (.inr x2)), some (.inl x3), some (.inl x4), some (.inr (.inl x5)), none, some (.inl x7), some (.inl x8)] [] H else bif decide ((x7 : Int32) < 0) then G 94 78 [some (.inr (.inr x0)), some (.inl x1), some (.inr (.inr x2)), some (.inl x3), some (.inl x4), some (.inr (.inl x5)), none, some (.inl x7), some (.inl x8)] [] H else (hAI H 3 (((x8 * 6) + x1))).bind fun i1 => (hAJ H x2 x7).bind fun j2 => (hgR H x0 14).bind fun r3 => bif Nat.beq (H.1 r3).1 5 then (G 8 0 [some (.inr (.inr r3)), some (.inl x7), some (.inl x4)] [] H).bind fun u4 => (asI u4.1).bind fun i5 => G 94 26 [some (.inr (.inr x0)), some (.inl x1), some (.inr (.inr x2)), some (.inl x3), some (.inl x4), some (.inr (.inl (x5 + (i1.toInt64 * j2)))), none, some (.inl i5), some (.inl (x8 + 1))] [] u4.2 else none) := by
  refine Eq.trans (e1 hG PT_94 k94_26 _ _ _) ?_
  show G 94 28 [some (.inr (.inr x0)), some (.inl x1), some (.inr (.inr x2)), some (.inl x3), some (.inl x4), some (.inr (.inl x5)), none, some (.inl x7), some (.inl x8)] [.inl x8] H = _
  refine Eq.trans (e1 hG PT_94 k94_28 _ _ _) ?_
  show G 94 29 [some (.inr (.inr x0)), some (.inl x1), some (.inr (.inr x2)), some (.inl x3), some (.inl x4), some (.inr (.inl x5)), none, some (.inl x7), some (.inl x8)] [.inl 5, .inl x8] H = _
  refine Eq.trans (e1 hG PT_94 k94_29 _ _ _) ?_
  refine bfc ?_ ?_
  · rfl
  · show G 94 32 [some (.inr (.inr x0)), some (.inl x1), some (.inr (.inr x2)), some (.inl x3), some (.inl x4), some (.inr (.inl x5)), none, some (.inl x7), some (.inl x8)] [] H = _
    refine Eq.trans (e1 hG PT_94 k94_32 _ _ _) ?_
    show G 94 34 [some (.inr (.inr x0)), some (.inl x1), some (.inr (.inr x2)), some (.inl x3), some (.inl x4), some (.inr (.inl x5)), none, some (.inl x7), some (.inl x8)] [.inl x7] H = _
    refine Eq.trans (e1 hG PT_94 k94_34 _ _ _) ?_
    refine bfc ?_ ?_
    · rfl
    · show G 94 37 [some (.inr (.inr x0)), some (.inl x1), some (.inr (.inr x2)), some (.inl x3), some (.inl x4), some (.inr (.inl x5)), none, some (.inl x7), some (.inl x8)] [] H = _
      refine Eq.trans (e1 hG PT_94 k94_37 _ _ _) ?_
      show G 94 39 [some (.inr (.inr x0)), some (.inl x1), some (.inr (.inr x2)), some (.inl x3), some (.inl x4), some (.inr (.inl x5)), none, some (.inl x7), some (.inl x8)] [.inr (.inl x5)] H = _
      refine Eq.trans (e1 hG PT_94 k94_39 _ _ _) ?_
      show G 94 42 [some (.inr (.inr x0)), some (.inl x1), some (.inr (.inr x2)), some (.inl x3), some (.inl x4), some (.inr (.inl x5)), none, some (.inl x7), some (.inl x8)] [.inr (.inr 3), .inr (.inl x5)] H = _
      refine Eq.trans (e1 hG PT_94 k94_42 _ _ _) ?_
      show G 94 44 [some (.inr (.inr x0)), some (.inl x1), some (.inr (.inr x2)), some (.inl x3), some (.inl x4), some (.inr (.inl x5)), none, some (.inl x7), some (.inl x8)] [.inl x8, .inr (.inr 3), .inr (.inl x5)] H = _
      refine Eq.trans (e1 hG PT_94 k94_44 _ _ _) ?_
      show G 94 46 [some (.inr (.inr x0)), some (.inl x1), some (.inr (.inr x2)), some (.inl x3), some (.inl x4), some (.inr (.inl x5)), none, some (.inl x7), some (.inl x8)] [.inl 6, .inl x8, .inr (.inr 3), .inr (.inl x5)] H = _
      refine Eq.trans (e1 hG PT_94 k94_46 _ _ _) ?_
      show G 94 47 [some (.inr (.inr x0)), some (.inl x1), some (.inr (.inr x2)), some (.inl x3), some (.inl x4), some (.inr (.inl x5)), none, some (.inl x7), some (.inl x8)] [.inl (x8 * 6), .inr (.inr 3), .inr (.inl x5)] H = _
      refine Eq.trans (e1 hG PT_94 k94_47 _ _ _) ?_
      show G 94 48 [some (.inr (.inr x0)), some (.inl x1), some (.inr (.inr x2)), some (.inl x3), some (.inl x4), some (.inr (.inl x5)), none, some (.inl x7), some (.inl x8)] [.inl x1, .inl (x8 * 6), .inr (.inr 3), .inr (.inl x5)] H = _
      refine Eq.trans (e1 hG PT_94 k94_48 _ _ _) ?_
      show G 94 49 [some (.inr (.inr x0)), some (.inl x1), some (.inr (.inr x2)), some (.inl x3), some (.inl x4), some (.inr (.inl x5)), none, some (.inl x7), some (.inl x8)] [.inl ((x8 * 6) + x1), .inr (.inr 3), .inr (.inl x5)] H = _
      refine Eq.trans (e1 hG PT_94 k94_49 _ _ _) ?_
      refine bdc fun i1 => ?_
      show G 94 50 [some (.inr (.inr x0)), some (.inl x1), some (.inr (.inr x2)), some (.inl x3), some (.inl x4), some (.inr (.inl x5)), none, some (.inl x7), some (.inl x8)] [.inl i1, .inr (.inl x5)] H = _
      refine Eq.trans (e1 hG PT_94 k94_50 _ _ _) ?_
      show G 94 51 [some (.inr (.inr x0)), some (.inl x1), some (.inr (.inr x2)), some (.inl x3), some (.inl x4), some (.inr (.inl x5)), none, some (.inl x7), some (.inl x8)] [.inr (.inl i1.toInt64), .inr (.inl x5)] H = _
      refine Eq.trans (e1 hG PT_94 k94_51 _ _ _) ?_
      show G 94 52 [some (.inr (.inr x0)), some (.inl x1), some (.inr (.inr x2)), some (.inl x3), some (.inl x4), some (.inr (.inl x5)), none, some (.inl x7), some (.inl x8)] [.inr (.inr x2), .inr (.inl i1.toInt64), .inr (.inl x5)] H = _
      refine Eq.trans (e1 hG PT_94 k94_52 _ _ _) ?_
      show G 94 54 [some (.inr (.inr x0)), some (.inl x1), some (.inr (.inr x2)), some (.inl x3), some (.inl x4), some (.inr (.inl x5)), none, some (.inl x7), some (.inl x8)] [.inl x7, .inr (.inr x2), .inr (.inl i1.toInt64), .inr (.inl x5)] H = _
      refine Eq.trans (e1 hG PT_94 k94_54 _ _ _) ?_
      refine bdc fun j2 => ?_
      show G 94 55 [some (.inr (.inr x0)), some (.inl x1), some (.inr (.inr x2)), some (.inl x3), some (.inl x4), some (.inr (.inl x5)), none, some (.inl x7), some (.inl x8)] [.inr (.inl j2), .inr (.inl i1.toInt64), .inr (.inl x5)] H = _
      refine Eq.trans (e1 hG PT_94 k94_55 _ _ _) ?_
      show G 94 56 [some (.inr (.inr x0)), some (.inl x1), some (.inr (.inr x2)), some (.inl x3), some (.inl x4), some (.inr (.inl x5)), none, some (.inl x7), some (.inl x8)] [.inr (.inl (i1.toInt64 * j2)), .inr (.inl x5)] H = _
      refine Eq.trans (e1 hG PT_94 k94_56 _ _ _) ?_
      show G 94 57 [some (.inr (.inr x0)), some (.inl x1), some (.inr (.inr x2)), some (.inl x3), some (.inl x4), some (.inr (.inl x5)), none, some (.inl x7), some (.inl x8)] [.inr (.inl (x5 + (i1.toInt64 * j2)))] H = _
      refine Eq.trans (e1 hG PT_94 k94_57 _ _ _) ?_
      show G 94 59 [some (.inr (.inr x0)), some (.inl x1), some (.inr (.inr x2)), some (.inl x3), some (.inl x4), some (.inr (.inl (x5 + (i1.toInt64 * j2)))), none, some (.inl x7), some (.inl x8)] [] H = _
      refine Eq.trans (e1 hG PT_94 k94_59 _ _ _) ?_
      show G 94 60 [some (.inr (.inr x0)), some (.inl x1), some (.inr (.inr x2)), some (.inl x3), some (.inl x4), some (.inr (.inl (x5 + (i1.toInt64 * j2)))), none, some (.inl x7), some (.inl x8)] [.inr (.inr x0)] H = _
      refine Eq.trans (e1 hG PT_94 k94_60 _ _ _) ?_
      refine bdc fun r3 => ?_
      show G 94 63 [some (.inr (.inr x0)), some (.inl x1), some (.inr (.inr x2)), some (.inl x3), some (.inl x4), some (.inr (.inl (x5 + (i1.toInt64 * j2)))), none, some (.inl x7), some (.inl x8)] [.inr (.inr r3)] H = _
      refine Eq.trans (e1 hG PT_94 k94_63 _ _ _) ?_
      show G 94 65 [some (.inr (.inr x0)), some (.inl x1), some (.inr (.inr x2)), some (.inl x3), some (.inl x4), some (.inr (.inl (x5 + (i1.toInt64 * j2)))), none, some (.inl x7), some (.inl x8)] [.inl x7, .inr (.inr r3)] H = _
      refine Eq.trans (e1 hG PT_94 k94_65 _ _ _) ?_
      show G 94 67 [some (.inr (.inr x0)), some (.inl x1), some (.inr (.inr x2)), some (.inl x3), some (.inl x4), some (.inr (.inl (x5 + (i1.toInt64 * j2)))), none, some (.inl x7), some (.inl x8)] [.inl x4, .inl x7, .inr (.inr r3)] H = _
      refine Eq.trans (e1 hG PT_94 k94_67 _ _ _) ?_
      refine bfc ?_ ?_
      · refine bdc fun u4 => ?_
        refine bdc fun i5 => ?_
        show G 94 70 [some (.inr (.inr x0)), some (.inl x1), some (.inr (.inr x2)), some (.inl x3), some (.inl x4), some (.inr (.inl (x5 + (i1.toInt64 * j2)))), none, some (.inl x7), some (.inl x8)] [.inl i5] u4.2 = _
        refine Eq.trans (e1 hG PT_94 k94_70 _ _ _) ?_
        show G 94 72 [some (.inr (.inr x0)), some (.inl x1), some (.inr (.inr x2)), some (.inl x3), some (.inl x4), some (.inr (.inl (x5 + (i1.toInt64 * j2)))), none, some (.inl i5), some (.inl x8)] [] u4.2 = _
        refine Eq.trans (e1 hG PT_94 k94_72 _ _ _) ?_
        show G 94 75 [some (.inr (.inr x0)), some (.inl x1), some (.inr (.inr x2)), some (.inl x3), some (.inl x4), some (.inr (.inl (x5 + (i1.toInt64 * j2)))), none, some (.inl i5), some (.inl (x8 + 1))] [] u4.2 = _
        refine Eq.trans (e1 hG PT_94 k94_75 _ _ _) ?_
        rfl
      · rfl
theorem b94_78 {G : AG} (hG : FIX G) (x0 : Nat) (x1 : Int32) (x2 : Nat) (x3 : Int32) (x4 : Int32) (x5 : Int64) (x7 : Int32) (x8 : Int32) (H : Hp) : G 94 78 [some (.inr (.inr x0)), some (.inl x1), some (.inr (.inr x2)), some (.inl x3), some (.inl x4), some (.inr (.inl x5)), none, some (.inl x7), some (.inl x8)] [] H = (some (some (.inr (.inl x5)), H)) := by
  refine Eq.trans (e1 hG PT_94 k94_78 _ _ _) ?_
  show G 94 80 [some (.inr (.inr x0)), some (.inl x1), some (.inr (.inr x2)), some (.inl x3), some (.inl x4), some (.inr (.inl x5)), none, some (.inl x7), some (.inl x8)] [.inr (.inl x5)] H = _
  exact e1 hG PT_94 k94_80 _ _ _
-- StepsAhead$Reckoner.keep([J)V
theorem PT_95 : PT 95 = pt95 := rfl
theorem k95_0 : lkp pt95 0 = iP 1 (fK (.inl 0)) := rfl
theorem k95_1 : lkp pt95 1 = iP 2 (fIst 2) := rfl
theorem k95_2 : lkp pt95 2 = iP 3 (fK (.inl 0)) := rfl
theorem k95_3 : lkp pt95 3 = iP 4 (fIst 3) := rfl
theorem k95_4 : lkp pt95 4 = iP 5 (fIld 3) := rfl
theorem k95_5 : lkp pt95 5 = iP 6 (fK (.inl 5)) := rfl
theorem k95_6 : lkp pt95 6 = iB 9 82 (b2 (fun x y => decide (y < x))) := rfl
theorem k95_9 : lkp pt95 9 = iP 10 (fIld 2) := rfl
theorem k95_10 : lkp pt95 10 = iP 12 (fIst 4) := rfl
theorem k95_12 : lkp pt95 12 = iP 13 (fK (.inl 0)) := rfl
theorem k95_13 : lkp pt95 13 = iP 15 (fIst 5) := rfl
theorem k95_15 : lkp pt95 15 = iP 17 (fIld 5) := rfl
theorem k95_17 : lkp pt95 17 = iP 18 (fK (.inl 5)) := rfl
theorem k95_18 : lkp pt95 18 = iB 21 66 (b2 (fun x y => decide (y < x))) := rfl
theorem k95_21 : lkp pt95 21 = iP 22 (fAld 1) := rfl
theorem k95_22 : lkp pt95 22 = iP 23 (fIld 3) := rfl
theorem k95_23 : lkp pt95 23 = iP 25 (fK (.inl 6)) := rfl
theorem k95_25 : lkp pt95 25 = iP 26 (f2I (fun x y => x * y)) := rfl
theorem k95_26 : lkp pt95 26 = iP 28 (fIld 5) := rfl
theorem k95_28 : lkp pt95 28 = iP 29 (f2I (fun x y => x + y)) := rfl
theorem k95_29 : lkp pt95 29 = iP 31 (fIld 4) := rfl
theorem k95_31 : lkp pt95 31 = iB 34 38 (b1 (fun x => decide (0 ≤ x))) := rfl
theorem k95_34 : lkp pt95 34 = iP 35 (fK (.inr (.inl 0))) := rfl
theorem k95_35 : lkp pt95 35 = iP 47 fGo := rfl
theorem k95_38 : lkp pt95 38 = iP 39 (fAld 0) := rfl
theorem k95_39 : lkp pt95 39 = iRR 42 (gtR 15) := rfl
theorem k95_42 : lkp pt95 42 = iP 43 (fK (.inl 0)) := rfl
theorem k95_43 : lkp pt95 43 = iRR 44 qAR := rfl
theorem k95_44 : lkp pt95 44 = iP 46 (fIld 4) := rfl
theorem k95_46 : lkp pt95 46 = iRJ 47 qAJ := rfl
theorem k95_47 : lkp pt95 47 = iW 48 wAJ := rfl
theorem k95_48 : lkp pt95 48 = iP 49 (fAld 0) := rfl
theorem k95_49 : lkp pt95 49 = iRR 52 (gtR 14) := rfl
theorem k95_52 : lkp pt95 52 = iP 54 (fIld 4) := rfl
theorem k95_54 : lkp pt95 54 = iP 55 (fK (.inl 1)) := rfl
theorem k95_55 : lkp pt95 55 = iCK 58 5 8 3 3 1 := rfl
theorem k95_58 : lkp pt95 58 = iP 60 (fIst 4) := rfl
theorem k95_60 : lkp pt95 60 = iP 63 (fInc 5 1) := rfl
theorem k95_63 : lkp pt95 63 = iP 15 fGo := rfl
theorem k95_66 : lkp pt95 66 = iP 67 (fAld 0) := rfl
theorem k95_67 : lkp pt95 67 = iRR 70 (gtR 14) := rfl
theorem k95_70 : lkp pt95 70 = iP 71 (fIld 2) := rfl
theorem k95_71 : lkp pt95 71 = iP 72 (fK (.inl 0)) := rfl
theorem k95_72 : lkp pt95 72 = iCK 75 5 8 3 3 1 := rfl
theorem k95_75 : lkp pt95 75 = iP 76 (fIst 2) := rfl
theorem k95_76 : lkp pt95 76 = iP 79 (fInc 3 1) := rfl
theorem k95_79 : lkp pt95 79 = iP 4 fGo := rfl
theorem k95_82 : lkp pt95 82 = iRet rV := rfl
theorem b95_0 {G : AG} (hG : FIX G) (x0 : Nat) (x1 : Nat) (H : Hp) : G 95 0 [some (.inr (.inr x0)), some (.inr (.inr x1)), none, none, none, none] [] H = (G 95 4 [some (.inr (.inr x0)), some (.inr (.inr x1)), some (.inl 0), some (.inl 0), none, none] [] H) := by
  refine Eq.trans (e1 hG PT_95 k95_0 _ _ _) ?_
  show G 95 1 [some (.inr (.inr x0)), some (.inr (.inr x1)), none, none, none, none] [.inl 0] H = _
  refine Eq.trans (e1 hG PT_95 k95_1 _ _ _) ?_
  show G 95 2 [some (.inr (.inr x0)), some (.inr (.inr x1)), some (.inl 0), none, none, none] [] H = _
  refine Eq.trans (e1 hG PT_95 k95_2 _ _ _) ?_
  show G 95 3 [some (.inr (.inr x0)), some (.inr (.inr x1)), some (.inl 0), none, none, none] [.inl 0] H = _
  refine Eq.trans (e1 hG PT_95 k95_3 _ _ _) ?_
  rfl
theorem b95_4 {G : AG} (hG : FIX G) (x0 : Nat) (x1 : Nat) (x2 : Int32) (x3 : Int32) (o4 : Option AV) (o5 : Option AV) (H : Hp) : G 95 4 [some (.inr (.inr x0)), some (.inr (.inr x1)), some (.inl x2), some (.inl x3), o4, o5] [] H = (bif decide ((5 : Int32) < (x3 : Int32)) then some (none, H) else G 95 15 [some (.inr (.inr x0)), some (.inr (.inr x1)), some (.inl x2), some (.inl x3), some (.inl x2), some (.inl 0)] [] H) := by
  refine Eq.trans (e1 hG PT_95 k95_4 _ _ _) ?_
  show G 95 5 [some (.inr (.inr x0)), some (.inr (.inr x1)), some (.inl x2), some (.inl x3), o4, o5] [.inl x3] H = _
  refine Eq.trans (e1 hG PT_95 k95_5 _ _ _) ?_
  show G 95 6 [some (.inr (.inr x0)), some (.inr (.inr x1)), some (.inl x2), some (.inl x3), o4, o5] [.inl 5, .inl x3] H = _
  refine Eq.trans (e1 hG PT_95 k95_6 _ _ _) ?_
  refine bfc ?_ ?_
  · show G 95 82 [some (.inr (.inr x0)), some (.inr (.inr x1)), some (.inl x2), some (.inl x3), o4, o5] [] H = _
    exact e1 hG PT_95 k95_82 _ _ _
  · show G 95 9 [some (.inr (.inr x0)), some (.inr (.inr x1)), some (.inl x2), some (.inl x3), o4, o5] [] H = _
    refine Eq.trans (e1 hG PT_95 k95_9 _ _ _) ?_
    show G 95 10 [some (.inr (.inr x0)), some (.inr (.inr x1)), some (.inl x2), some (.inl x3), o4, o5] [.inl x2] H = _
    refine Eq.trans (e1 hG PT_95 k95_10 _ _ _) ?_
    show G 95 12 [some (.inr (.inr x0)), some (.inr (.inr x1)), some (.inl x2), some (.inl x3), some (.inl x2), o5] [] H = _
    refine Eq.trans (e1 hG PT_95 k95_12 _ _ _) ?_
    show G 95 13 [some (.inr (.inr x0)), some (.inr (.inr x1)), some (.inl x2), some (.inl x3), some (.inl x2), o5] [.inl 0] H = _
    refine Eq.trans (e1 hG PT_95 k95_13 _ _ _) ?_
    rfl
theorem b95_15 {G : AG} (hG : FIX G) (x0 : Nat) (x1 : Nat) (x2 : Int32) (x3 : Int32) (x4 : Int32) (x5 : Int32) (H : Hp) : G 95 15 [some (.inr (.inr x0)), some (.inr (.inr x1)), some (.inl x2), some (.inl x3), some (.inl x4), some (.inl x5)] [] H = (bif decide ((5 : Int32) < (x5 : Int32)) then (hgR H x0 14).bind fun r1 => bif Nat.beq (H.1 r1).1 5 then (G 8 0 [some (.inr (.inr r1)), some (.inl x2), some (.inl 0)] [] H).bind fun u2 => (asI u2.1).bind fun i3 => G 95 4 [some (.inr (.inr x0)), some (.inr (.inr x1)), some (.inl i3), some (.inl (x3 + 1)), some (.inl x4), some (.inl x5)] [] u2.2 else none else bif decide (0 ≤ (x4 : Int32)) then (hgR H x0 15).bind fun r4 => (hAR H r4 0).bind fun r5 => (hAJ H r5 x4).bind fun j6 => G 95 47 [some (.inr (.inr x0)), some (.inr (.inr x1)), some (.inl x2), some (.inl x3), some (.inl x4), some (.inl x5)] [.inr (.inl j6), .inl ((x3 * 6) + x5), .inr (.inr x1)] H else G 95 47 [some (.inr (.inr x0)), some (.inr (.inr x1)), some (.inl x2), some (.inl x3), some (.inl x4), some (.inl x5)] [.inr (.inl 0), .inl ((x3 * 6) + x5), .inr (.inr x1)] H) := by
  refine Eq.trans (e1 hG PT_95 k95_15 _ _ _) ?_
  show G 95 17 [some (.inr (.inr x0)), some (.inr (.inr x1)), some (.inl x2), some (.inl x3), some (.inl x4), some (.inl x5)] [.inl x5] H = _
  refine Eq.trans (e1 hG PT_95 k95_17 _ _ _) ?_
  show G 95 18 [some (.inr (.inr x0)), some (.inr (.inr x1)), some (.inl x2), some (.inl x3), some (.inl x4), some (.inl x5)] [.inl 5, .inl x5] H = _
  refine Eq.trans (e1 hG PT_95 k95_18 _ _ _) ?_
  refine bfc ?_ ?_
  · show G 95 66 [some (.inr (.inr x0)), some (.inr (.inr x1)), some (.inl x2), some (.inl x3), some (.inl x4), some (.inl x5)] [] H = _
    refine Eq.trans (e1 hG PT_95 k95_66 _ _ _) ?_
    show G 95 67 [some (.inr (.inr x0)), some (.inr (.inr x1)), some (.inl x2), some (.inl x3), some (.inl x4), some (.inl x5)] [.inr (.inr x0)] H = _
    refine Eq.trans (e1 hG PT_95 k95_67 _ _ _) ?_
    refine bdc fun r1 => ?_
    show G 95 70 [some (.inr (.inr x0)), some (.inr (.inr x1)), some (.inl x2), some (.inl x3), some (.inl x4), some (.inl x5)] [.inr (.inr r1)] H = _
    refine Eq.trans (e1 hG PT_95 k95_70 _ _ _) ?_
    show G 95 71 [some (.inr (.inr x0)), some (.inr (.inr x1)), some (.inl x2), some (.inl x3), some (.inl x4), some (.inl x5)] [.inl x2, .inr (.inr r1)] H = _
    refine Eq.trans (e1 hG PT_95 k95_71 _ _ _) ?_
    show G 95 72 [some (.inr (.inr x0)), some (.inr (.inr x1)), some (.inl x2), some (.inl x3), some (.inl x4), some (.inl x5)] [.inl 0, .inl x2, .inr (.inr r1)] H = _
    refine Eq.trans (e1 hG PT_95 k95_72 _ _ _) ?_
    refine bfc ?_ ?_
    · refine bdc fun u2 => ?_
      refine bdc fun i3 => ?_
      show G 95 75 [some (.inr (.inr x0)), some (.inr (.inr x1)), some (.inl x2), some (.inl x3), some (.inl x4), some (.inl x5)] [.inl i3] u2.2 = _
      refine Eq.trans (e1 hG PT_95 k95_75 _ _ _) ?_
      show G 95 76 [some (.inr (.inr x0)), some (.inr (.inr x1)), some (.inl i3), some (.inl x3), some (.inl x4), some (.inl x5)] [] u2.2 = _
      refine Eq.trans (e1 hG PT_95 k95_76 _ _ _) ?_
      show G 95 79 [some (.inr (.inr x0)), some (.inr (.inr x1)), some (.inl i3), some (.inl (x3 + 1)), some (.inl x4), some (.inl x5)] [] u2.2 = _
      refine Eq.trans (e1 hG PT_95 k95_79 _ _ _) ?_
      rfl
    · rfl
  · show G 95 21 [some (.inr (.inr x0)), some (.inr (.inr x1)), some (.inl x2), some (.inl x3), some (.inl x4), some (.inl x5)] [] H = _
    refine Eq.trans (e1 hG PT_95 k95_21 _ _ _) ?_
    show G 95 22 [some (.inr (.inr x0)), some (.inr (.inr x1)), some (.inl x2), some (.inl x3), some (.inl x4), some (.inl x5)] [.inr (.inr x1)] H = _
    refine Eq.trans (e1 hG PT_95 k95_22 _ _ _) ?_
    show G 95 23 [some (.inr (.inr x0)), some (.inr (.inr x1)), some (.inl x2), some (.inl x3), some (.inl x4), some (.inl x5)] [.inl x3, .inr (.inr x1)] H = _
    refine Eq.trans (e1 hG PT_95 k95_23 _ _ _) ?_
    show G 95 25 [some (.inr (.inr x0)), some (.inr (.inr x1)), some (.inl x2), some (.inl x3), some (.inl x4), some (.inl x5)] [.inl 6, .inl x3, .inr (.inr x1)] H = _
    refine Eq.trans (e1 hG PT_95 k95_25 _ _ _) ?_
    show G 95 26 [some (.inr (.inr x0)), some (.inr (.inr x1)), some (.inl x2), some (.inl x3), some (.inl x4), some (.inl x5)] [.inl (x3 * 6), .inr (.inr x1)] H = _
    refine Eq.trans (e1 hG PT_95 k95_26 _ _ _) ?_
    show G 95 28 [some (.inr (.inr x0)), some (.inr (.inr x1)), some (.inl x2), some (.inl x3), some (.inl x4), some (.inl x5)] [.inl x5, .inl (x3 * 6), .inr (.inr x1)] H = _
    refine Eq.trans (e1 hG PT_95 k95_28 _ _ _) ?_
    show G 95 29 [some (.inr (.inr x0)), some (.inr (.inr x1)), some (.inl x2), some (.inl x3), some (.inl x4), some (.inl x5)] [.inl ((x3 * 6) + x5), .inr (.inr x1)] H = _
    refine Eq.trans (e1 hG PT_95 k95_29 _ _ _) ?_
    show G 95 31 [some (.inr (.inr x0)), some (.inr (.inr x1)), some (.inl x2), some (.inl x3), some (.inl x4), some (.inl x5)] [.inl x4, .inl ((x3 * 6) + x5), .inr (.inr x1)] H = _
    refine Eq.trans (e1 hG PT_95 k95_31 _ _ _) ?_
    refine bfc ?_ ?_
    · show G 95 38 [some (.inr (.inr x0)), some (.inr (.inr x1)), some (.inl x2), some (.inl x3), some (.inl x4), some (.inl x5)] [.inl ((x3 * 6) + x5), .inr (.inr x1)] H = _
      refine Eq.trans (e1 hG PT_95 k95_38 _ _ _) ?_
      show G 95 39 [some (.inr (.inr x0)), some (.inr (.inr x1)), some (.inl x2), some (.inl x3), some (.inl x4), some (.inl x5)] [.inr (.inr x0), .inl ((x3 * 6) + x5), .inr (.inr x1)] H = _
      refine Eq.trans (e1 hG PT_95 k95_39 _ _ _) ?_
      refine bdc fun r4 => ?_
      show G 95 42 [some (.inr (.inr x0)), some (.inr (.inr x1)), some (.inl x2), some (.inl x3), some (.inl x4), some (.inl x5)] [.inr (.inr r4), .inl ((x3 * 6) + x5), .inr (.inr x1)] H = _
      refine Eq.trans (e1 hG PT_95 k95_42 _ _ _) ?_
      show G 95 43 [some (.inr (.inr x0)), some (.inr (.inr x1)), some (.inl x2), some (.inl x3), some (.inl x4), some (.inl x5)] [.inl 0, .inr (.inr r4), .inl ((x3 * 6) + x5), .inr (.inr x1)] H = _
      refine Eq.trans (e1 hG PT_95 k95_43 _ _ _) ?_
      refine bdc fun r5 => ?_
      show G 95 44 [some (.inr (.inr x0)), some (.inr (.inr x1)), some (.inl x2), some (.inl x3), some (.inl x4), some (.inl x5)] [.inr (.inr r5), .inl ((x3 * 6) + x5), .inr (.inr x1)] H = _
      refine Eq.trans (e1 hG PT_95 k95_44 _ _ _) ?_
      show G 95 46 [some (.inr (.inr x0)), some (.inr (.inr x1)), some (.inl x2), some (.inl x3), some (.inl x4), some (.inl x5)] [.inl x4, .inr (.inr r5), .inl ((x3 * 6) + x5), .inr (.inr x1)] H = _
      refine Eq.trans (e1 hG PT_95 k95_46 _ _ _) ?_
      refine bdc fun j6 => ?_
      rfl
    · show G 95 34 [some (.inr (.inr x0)), some (.inr (.inr x1)), some (.inl x2), some (.inl x3), some (.inl x4), some (.inl x5)] [.inl ((x3 * 6) + x5), .inr (.inr x1)] H = _
      refine Eq.trans (e1 hG PT_95 k95_34 _ _ _) ?_
      show G 95 35 [some (.inr (.inr x0)), some (.inr (.inr x1)), some (.inl x2), some (.inl x3), some (.inl x4), some (.inl x5)] [.inr (.inl 0), .inl ((x3 * 6) + x5), .inr (.inr x1)] H = _
      refine Eq.trans (e1 hG PT_95 k95_35 _ _ _) ?_
      rfl
theorem b95_47 {G : AG} (hG : FIX G) (x0 : Nat) (x1 : Nat) (x2 : Int32) (x3 : Int32) (x4 : Int32) (x5 : Int32) (s0 : Int64) (s1 : Int32) (s2 : Nat) (H : Hp) : G 95 47 [some (.inr (.inr x0)), some (.inr (.inr x1)), some (.inl x2), some (.inl x3), some (.inl x4), some (.inl x5)] [.inr (.inl s0), .inl s1, .inr (.inr s2)] H = ((hSJ H s2 s1 s0).bind fun H1 => (hgR H1 x0 14).bind fun r2 => bif Nat.beq (H1.1 r2).1 5 then (G 8 0 [some (.inr (.inr r2)), some (.inl x4), some (.inl 1)] [] H1).bind fun u3 => (asI u3.1).bind fun i4 => G 95 15 [some (.inr (.inr x0)), some (.inr (.inr x1)), some (.inl x2), some (.inl x3), some (.inl i4), some (.inl (x5 + 1))] [] u3.2 else none) := by
  refine Eq.trans (e1 hG PT_95 k95_47 _ _ _) ?_
  refine bdc fun H1 => ?_
  show G 95 48 [some (.inr (.inr x0)), some (.inr (.inr x1)), some (.inl x2), some (.inl x3), some (.inl x4), some (.inl x5)] [] H1 = _
  refine Eq.trans (e1 hG PT_95 k95_48 _ _ _) ?_
  show G 95 49 [some (.inr (.inr x0)), some (.inr (.inr x1)), some (.inl x2), some (.inl x3), some (.inl x4), some (.inl x5)] [.inr (.inr x0)] H1 = _
  refine Eq.trans (e1 hG PT_95 k95_49 _ _ _) ?_
  refine bdc fun r2 => ?_
  show G 95 52 [some (.inr (.inr x0)), some (.inr (.inr x1)), some (.inl x2), some (.inl x3), some (.inl x4), some (.inl x5)] [.inr (.inr r2)] H1 = _
  refine Eq.trans (e1 hG PT_95 k95_52 _ _ _) ?_
  show G 95 54 [some (.inr (.inr x0)), some (.inr (.inr x1)), some (.inl x2), some (.inl x3), some (.inl x4), some (.inl x5)] [.inl x4, .inr (.inr r2)] H1 = _
  refine Eq.trans (e1 hG PT_95 k95_54 _ _ _) ?_
  show G 95 55 [some (.inr (.inr x0)), some (.inr (.inr x1)), some (.inl x2), some (.inl x3), some (.inl x4), some (.inl x5)] [.inl 1, .inl x4, .inr (.inr r2)] H1 = _
  refine Eq.trans (e1 hG PT_95 k95_55 _ _ _) ?_
  refine bfc ?_ ?_
  · refine bdc fun u3 => ?_
    refine bdc fun i4 => ?_
    show G 95 58 [some (.inr (.inr x0)), some (.inr (.inr x1)), some (.inl x2), some (.inl x3), some (.inl x4), some (.inl x5)] [.inl i4] u3.2 = _
    refine Eq.trans (e1 hG PT_95 k95_58 _ _ _) ?_
    show G 95 60 [some (.inr (.inr x0)), some (.inr (.inr x1)), some (.inl x2), some (.inl x3), some (.inl i4), some (.inl x5)] [] u3.2 = _
    refine Eq.trans (e1 hG PT_95 k95_60 _ _ _) ?_
    show G 95 63 [some (.inr (.inr x0)), some (.inr (.inr x1)), some (.inl x2), some (.inl x3), some (.inl i4), some (.inl (x5 + 1))] [] u3.2 = _
    refine Eq.trans (e1 hG PT_95 k95_63 _ _ _) ?_
    rfl
  · rfl
-- StepsAhead$Routine.termCount(I)I
theorem PT_96 : PT 96 = pt96 := rfl
theorem k96_0 : lkp pt96 0 = iP 1 (fK (.inl 0)) := rfl
theorem k96_1 : lkp pt96 1 = iP 2 (fIst 2) := rfl
theorem k96_2 : lkp pt96 2 = iP 3 (fAld 0) := rfl
theorem k96_3 : lkp pt96 3 = iRR 6 (gtR 27) := rfl
theorem k96_6 : lkp pt96 6 = iP 7 (fIld 1) := rfl
theorem k96_7 : lkp pt96 7 = iRR 8 qAR := rfl
theorem k96_8 : lkp pt96 8 = iP 9 (fAst 3) := rfl
theorem k96_9 : lkp pt96 9 = iP 10 (fAld 3) := rfl
theorem k96_10 : lkp pt96 10 = iRI 11 qLen := rfl
theorem k96_11 : lkp pt96 11 = iP 13 (fIst 4) := rfl
theorem k96_13 : lkp pt96 13 = iP 14 (fK (.inl 0)) := rfl
theorem k96_14 : lkp pt96 14 = iP 16 (fIst 5) := rfl
theorem k96_16 : lkp pt96 16 = iP 18 (fIld 5) := rfl
theorem k96_18 : lkp pt96 18 = iP 20 (fIld 4) := rfl
theorem k96_20 : lkp pt96 20 = iB 23 45 (b2 (fun x y => decide (y ≤ x))) := rfl
theorem k96_23 : lkp pt96 23 = iP 24 (fAld 3) := rfl
theorem k96_24 : lkp pt96 24 = iP 26 (fIld 5) := rfl
theorem k96_26 : lkp pt96 26 = iRJ 27 qAJ := rfl
theorem k96_27 : lkp pt96 27 = iP 29 (fLst 6) := rfl
theorem k96_29 : lkp pt96 29 = iP 31 (fJld 6) := rfl
theorem k96_31 : lkp pt96 31 = iP 32 (fK (.inr (.inl 0))) := rfl
theorem k96_32 : lkp pt96 32 = iP 33 fLcmp := rfl
theorem k96_33 : lkp pt96 33 = iB 36 39 (b1 (fun x => decide (x = 0))) := rfl
theorem k96_36 : lkp pt96 36 = iP 39 (fInc 2 1) := rfl
theorem k96_39 : lkp pt96 39 = iP 42 (fInc 5 1) := rfl
theorem k96_42 : lkp pt96 42 = iP 16 fGo := rfl
theorem k96_45 : lkp pt96 45 = iP 46 (fIld 2) := rfl
theorem k96_46 : lkp pt96 46 = iRet rI := rfl
theorem b96_0 {G : AG} (hG : FIX G) (x0 : Nat) (x1 : Int32) (H : Hp) : G 96 0 [some (.inr (.inr x0)), some (.inl x1), none, none, none, none, none, none] [] H = ((hgR H x0 27).bind fun r1 => (hAR H r1 x1).bind fun r2 => (hLen H r2).bind fun i3 => G 96 16 [some (.inr (.inr x0)), some (.inl x1), some (.inl 0), some (.inr (.inr r2)), some (.inl i3), some (.inl 0), none, none] [] H) := by
  refine Eq.trans (e1 hG PT_96 k96_0 _ _ _) ?_
  show G 96 1 [some (.inr (.inr x0)), some (.inl x1), none, none, none, none, none, none] [.inl 0] H = _
  refine Eq.trans (e1 hG PT_96 k96_1 _ _ _) ?_
  show G 96 2 [some (.inr (.inr x0)), some (.inl x1), some (.inl 0), none, none, none, none, none] [] H = _
  refine Eq.trans (e1 hG PT_96 k96_2 _ _ _) ?_
  show G 96 3 [some (.inr (.inr x0)), some (.inl x1), some (.inl 0), none, none, none, none, none] [.inr (.inr x0)] H = _
  refine Eq.trans (e1 hG PT_96 k96_3 _ _ _) ?_
  refine bdc fun r1 => ?_
  show G 96 6 [some (.inr (.inr x0)), some (.inl x1), some (.inl 0), none, none, none, none, none] [.inr (.inr r1)] H = _
  refine Eq.trans (e1 hG PT_96 k96_6 _ _ _) ?_
  show G 96 7 [some (.inr (.inr x0)), some (.inl x1), some (.inl 0), none, none, none, none, none] [.inl x1, .inr (.inr r1)] H = _
  refine Eq.trans (e1 hG PT_96 k96_7 _ _ _) ?_
  refine bdc fun r2 => ?_
  show G 96 8 [some (.inr (.inr x0)), some (.inl x1), some (.inl 0), none, none, none, none, none] [.inr (.inr r2)] H = _
  refine Eq.trans (e1 hG PT_96 k96_8 _ _ _) ?_
  show G 96 9 [some (.inr (.inr x0)), some (.inl x1), some (.inl 0), some (.inr (.inr r2)), none, none, none, none] [] H = _
  refine Eq.trans (e1 hG PT_96 k96_9 _ _ _) ?_
  show G 96 10 [some (.inr (.inr x0)), some (.inl x1), some (.inl 0), some (.inr (.inr r2)), none, none, none, none] [.inr (.inr r2)] H = _
  refine Eq.trans (e1 hG PT_96 k96_10 _ _ _) ?_
  refine bdc fun i3 => ?_
  show G 96 11 [some (.inr (.inr x0)), some (.inl x1), some (.inl 0), some (.inr (.inr r2)), none, none, none, none] [.inl i3] H = _
  refine Eq.trans (e1 hG PT_96 k96_11 _ _ _) ?_
  show G 96 13 [some (.inr (.inr x0)), some (.inl x1), some (.inl 0), some (.inr (.inr r2)), some (.inl i3), none, none, none] [] H = _
  refine Eq.trans (e1 hG PT_96 k96_13 _ _ _) ?_
  show G 96 14 [some (.inr (.inr x0)), some (.inl x1), some (.inl 0), some (.inr (.inr r2)), some (.inl i3), none, none, none] [.inl 0] H = _
  refine Eq.trans (e1 hG PT_96 k96_14 _ _ _) ?_
  rfl
theorem b96_16 {G : AG} (hG : FIX G) (x0 : Nat) (x1 : Int32) (x2 : Int32) (x3 : Nat) (x4 : Int32) (x5 : Int32) (o6 : Option AV) (H : Hp) : G 96 16 [some (.inr (.inr x0)), some (.inl x1), some (.inl x2), some (.inr (.inr x3)), some (.inl x4), some (.inl x5), o6, none] [] H = (bif decide ((x4 : Int32) ≤ (x5 : Int32)) then some (some (.inl x2), H) else (hAJ H x3 x5).bind fun j1 => bif decide (((lg_cmp j1 0) : Int32) = 0) then G 96 39 [some (.inr (.inr x0)), some (.inl x1), some (.inl x2), some (.inr (.inr x3)), some (.inl x4), some (.inl x5), some (.inr (.inl j1)), none] [] H else G 96 39 [some (.inr (.inr x0)), some (.inl x1), some (.inl (x2 + 1)), some (.inr (.inr x3)), some (.inl x4), some (.inl x5), some (.inr (.inl j1)), none] [] H) := by
  refine Eq.trans (e1 hG PT_96 k96_16 _ _ _) ?_
  show G 96 18 [some (.inr (.inr x0)), some (.inl x1), some (.inl x2), some (.inr (.inr x3)), some (.inl x4), some (.inl x5), o6, none] [.inl x5] H = _
  refine Eq.trans (e1 hG PT_96 k96_18 _ _ _) ?_
  show G 96 20 [some (.inr (.inr x0)), some (.inl x1), some (.inl x2), some (.inr (.inr x3)), some (.inl x4), some (.inl x5), o6, none] [.inl x4, .inl x5] H = _
  refine Eq.trans (e1 hG PT_96 k96_20 _ _ _) ?_
  refine bfc ?_ ?_
  · show G 96 45 [some (.inr (.inr x0)), some (.inl x1), some (.inl x2), some (.inr (.inr x3)), some (.inl x4), some (.inl x5), o6, none] [] H = _
    refine Eq.trans (e1 hG PT_96 k96_45 _ _ _) ?_
    show G 96 46 [some (.inr (.inr x0)), some (.inl x1), some (.inl x2), some (.inr (.inr x3)), some (.inl x4), some (.inl x5), o6, none] [.inl x2] H = _
    exact e1 hG PT_96 k96_46 _ _ _
  · show G 96 23 [some (.inr (.inr x0)), some (.inl x1), some (.inl x2), some (.inr (.inr x3)), some (.inl x4), some (.inl x5), o6, none] [] H = _
    refine Eq.trans (e1 hG PT_96 k96_23 _ _ _) ?_
    show G 96 24 [some (.inr (.inr x0)), some (.inl x1), some (.inl x2), some (.inr (.inr x3)), some (.inl x4), some (.inl x5), o6, none] [.inr (.inr x3)] H = _
    refine Eq.trans (e1 hG PT_96 k96_24 _ _ _) ?_
    show G 96 26 [some (.inr (.inr x0)), some (.inl x1), some (.inl x2), some (.inr (.inr x3)), some (.inl x4), some (.inl x5), o6, none] [.inl x5, .inr (.inr x3)] H = _
    refine Eq.trans (e1 hG PT_96 k96_26 _ _ _) ?_
    refine bdc fun j1 => ?_
    show G 96 27 [some (.inr (.inr x0)), some (.inl x1), some (.inl x2), some (.inr (.inr x3)), some (.inl x4), some (.inl x5), o6, none] [.inr (.inl j1)] H = _
    refine Eq.trans (e1 hG PT_96 k96_27 _ _ _) ?_
    show G 96 29 [some (.inr (.inr x0)), some (.inl x1), some (.inl x2), some (.inr (.inr x3)), some (.inl x4), some (.inl x5), some (.inr (.inl j1)), none] [] H = _
    refine Eq.trans (e1 hG PT_96 k96_29 _ _ _) ?_
    show G 96 31 [some (.inr (.inr x0)), some (.inl x1), some (.inl x2), some (.inr (.inr x3)), some (.inl x4), some (.inl x5), some (.inr (.inl j1)), none] [.inr (.inl j1)] H = _
    refine Eq.trans (e1 hG PT_96 k96_31 _ _ _) ?_
    show G 96 32 [some (.inr (.inr x0)), some (.inl x1), some (.inl x2), some (.inr (.inr x3)), some (.inl x4), some (.inl x5), some (.inr (.inl j1)), none] [.inr (.inl 0), .inr (.inl j1)] H = _
    refine Eq.trans (e1 hG PT_96 k96_32 _ _ _) ?_
    show G 96 33 [some (.inr (.inr x0)), some (.inl x1), some (.inl x2), some (.inr (.inr x3)), some (.inl x4), some (.inl x5), some (.inr (.inl j1)), none] [.inl (lg_cmp j1 0)] H = _
    refine Eq.trans (e1 hG PT_96 k96_33 _ _ _) ?_
    refine bfc ?_ ?_
    · rfl
    · show G 96 36 [some (.inr (.inr x0)), some (.inl x1), some (.inl x2), some (.inr (.inr x3)), some (.inl x4), some (.inl x5), some (.inr (.inl j1)), none] [] H = _
      refine Eq.trans (e1 hG PT_96 k96_36 _ _ _) ?_
      rfl
theorem b96_39 {G : AG} (hG : FIX G) (x0 : Nat) (x1 : Int32) (x2 : Int32) (x3 : Nat) (x4 : Int32) (x5 : Int32) (x6 : Int64) (H : Hp) : G 96 39 [some (.inr (.inr x0)), some (.inl x1), some (.inl x2), some (.inr (.inr x3)), some (.inl x4), some (.inl x5), some (.inr (.inl x6)), none] [] H = (G 96 16 [some (.inr (.inr x0)), some (.inl x1), some (.inl x2), some (.inr (.inr x3)), some (.inl x4), some (.inl (x5 + 1)), some (.inr (.inl x6)), none] [] H) := by
  refine Eq.trans (e1 hG PT_96 k96_39 _ _ _) ?_
  show G 96 42 [some (.inr (.inr x0)), some (.inl x1), some (.inl x2), some (.inr (.inr x3)), some (.inl x4), some (.inl (x5 + 1)), some (.inr (.inl x6)), none] [] H = _
  refine Eq.trans (e1 hG PT_96 k96_42 _ _ _) ?_
  rfl
-- StepsAhead.term(IIII)J
theorem PT_97 : PT 97 = pt97 := rfl
theorem k97_0 : lkp pt97 0 = iP 1 (fAld 0) := rfl
theorem k97_1 : lkp pt97 1 = iP 2 (fIld 1) := rfl
theorem k97_2 : lkp pt97 2 = iCK 5 11 15 2 2 3 := rfl
theorem k97_5 : lkp pt97 5 = iP 7 (fAst 5) := rfl
theorem k97_7 : lkp pt97 7 = iP 9 (fAld 5) := rfl
theorem k97_9 : lkp pt97 9 = iB 12 34 bN := rfl
theorem k97_12 : lkp pt97 12 = iP 13 (fIld 2) := rfl
theorem k97_13 : lkp pt97 13 = iC 16 66 1 1 1 := rfl
theorem k97_16 : lkp pt97 16 = iB 19 34 (b1 (fun x => decide (x = 0))) := rfl
theorem k97_19 : lkp pt97 19 = iP 20 (fIld 3) := rfl
theorem k97_20 : lkp pt97 20 = iB 23 34 (b1 (fun x => decide (x < 0))) := rfl
theorem k97_23 : lkp pt97 23 = iP 25 (fIld 4) := rfl
theorem k97_25 : lkp pt97 25 = iB 28 34 (b1 (fun x => decide (x < 0))) := rfl
theorem k97_28 : lkp pt97 28 = iP 30 (fIld 4) := rfl
theorem k97_30 : lkp pt97 30 = iP 31 (fK (.inl 3)) := rfl
theorem k97_31 : lkp pt97 31 = iB 34 38 (b2 (fun x y => decide (x ≤ y))) := rfl
theorem k97_34 : lkp pt97 34 = iP 37 (fK (.inr (.inl (-1000001)))) := rfl
theorem k97_37 : lkp pt97 37 = iRet rJ := rfl
theorem k97_38 : lkp pt97 38 = iP 39 (fAld 0) := rfl
theorem k97_39 : lkp pt97 39 = iP 41 (fAld 5) := rfl
theorem k97_41 : lkp pt97 41 = iP 42 (fIld 2) := rfl
theorem k97_42 : lkp pt97 42 = iCK 45 11 67 6 3 1 := rfl
theorem k97_45 : lkp pt97 45 = iP 47 (fIst 6) := rfl
theorem k97_47 : lkp pt97 47 = iP 49 (fIld 6) := rfl
theorem k97_49 : lkp pt97 49 = iB 52 56 (b1 (fun x => decide (0 ≤ x))) := rfl
theorem k97_52 : lkp pt97 52 = iP 54 (fIld 6) := rfl
theorem k97_54 : lkp pt97 54 = iP 55 fI2l := rfl
theorem k97_55 : lkp pt97 55 = iRet rJ := rfl
theorem k97_56 : lkp pt97 56 = iP 58 (fAld 5) := rfl
theorem k97_58 : lkp pt97 58 = iP 59 (fIld 2) := rfl
theorem k97_59 : lkp pt97 59 = iP 60 (fIld 3) := rfl
theorem k97_60 : lkp pt97 60 = iCK 63 7 98 5 3 1 := rfl
theorem k97_63 : lkp pt97 63 = iP 65 (fIst 7) := rfl
theorem k97_65 : lkp pt97 65 = iP 67 (fIld 7) := rfl
theorem k97_67 : lkp pt97 67 = iP 68 (fK (.inl (-1))) := rfl
theorem k97_68 : lkp pt97 68 = iB 71 75 (b2 (fun x y => decide (x ≠ y))) := rfl
theorem k97_71 : lkp pt97 71 = iP 74 (fK (.inr (.inl (-1000001)))) := rfl
theorem k97_74 : lkp pt97 74 = iRet rJ := rfl
theorem k97_75 : lkp pt97 75 = iP 77 (fAld 5) := rfl
theorem k97_77 : lkp pt97 77 = iRR 80 (gtR 27) := rfl
theorem k97_80 : lkp pt97 80 = iP 81 (fIld 2) := rfl
theorem k97_81 : lkp pt97 81 = iRR 82 qAR := rfl
theorem k97_82 : lkp pt97 82 = iP 84 (fIld 7) := rfl
theorem k97_84 : lkp pt97 84 = iRJ 85 qAJ := rfl
theorem k97_85 : lkp pt97 85 = iP 87 (fLst 8) := rfl
theorem k97_87 : lkp pt97 87 = iP 89 (fIld 4) := rfl
theorem k97_89 : lkp pt97 89 = iSw 142 0 [116, 125, 135] := rfl
theorem k97_116 : lkp pt97 116 = iP 118 (fJld 8) := rfl
theorem k97_118 : lkp pt97 118 = iP 120 (fJld 8) := rfl
theorem k97_120 : lkp pt97 120 = iC 123 99 9 1 2 := rfl
theorem k97_123 : lkp pt97 123 = iRJ 124 (q2J (fun x y => x / y)) := rfl
theorem k97_124 : lkp pt97 124 = iRet rJ := rfl
theorem k97_125 : lkp pt97 125 = iP 128 (fK (.inr (.inl 8640))) := rfl
theorem k97_128 : lkp pt97 128 = iP 130 (fJld 8) := rfl
theorem k97_130 : lkp pt97 130 = iC 133 99 9 1 2 := rfl
theorem k97_133 : lkp pt97 133 = iRJ 134 (q2J (fun x y => x / y)) := rfl
theorem k97_134 : lkp pt97 134 = iRet rJ := rfl
theorem k97_135 : lkp pt97 135 = iP 137 (fIld 7) := rfl
theorem k97_137 : lkp pt97 137 = iP 139 (fK (.inl 6)) := rfl
theorem k97_139 : lkp pt97 139 = iRI 140 (q2I (fun x y => x / y)) := rfl
theorem k97_140 : lkp pt97 140 = iP 141 fI2l := rfl
theorem k97_141 : lkp pt97 141 = iRet rJ := rfl
theorem k97_142 : lkp pt97 142 = iP 144 (fIld 7) := rfl
theorem k97_144 : lkp pt97 144 = iP 146 (fK (.inl 6)) := rfl
theorem k97_146 : lkp pt97 146 = iRI 147 (q2I (fun x y => x - x / y * y)) := rfl
theorem k97_147 : lkp pt97 147 = iP 148 fI2l := rfl
theorem k97_148 : lkp pt97 148 = iRet rJ := rfl
theorem b97_0 {G : AG} (hG : FIX G) (x0 : Nat) (x1 : Int32) (x2 : Int32) (x3 : Int32) (x4 : Int32) (H : Hp) : G 97 0 [some (.inr (.inr x0)), some (.inl x1), some (.inl x2), some (.inl x3), some (.inl x4), none, none, none, none, none] [] H = (bif Nat.beq (H.1 x0).1 11 then (G 15 0 [some (.inr (.inr x0)), some (.inl x1)] [] H).bind fun u1 => (asR u1.1).bind fun r2 => bif Nat.beq r2 0 then G 97 34 [some (.inr (.inr x0)), some (.inl x1), some (.inl x2), some (.inl x3), some (.inl x4), some (.inr (.inr r2)), none, none, none, none] [] u1.2 else (G 66 0 [some (.inl x2)] [] u1.2).bind fun u3 => (asI u3.1).bind fun i4 => bif decide ((i4 : Int32) = 0) then G 97 34 [some (.inr (.inr x0)), some (.inl x1), some (.inl x2), some (.inl x3), some (.inl x4), some (.inr (.inr r2)), none, none, none, none] [] u3.2 else bif decide ((x3 : Int32) < 0) then G 97 34 [some (.inr (.inr x0)), some (.inl x1), some (.inl x2), some (.inl x3), some (.inl x4), some (.inr (.inr r2)), none, none, none, none] [] u3.2 else bif decide ((x4 : Int32) < 0) then G 97 34 [some (.inr (.inr x0)), some (.inl x1), some (.inl x2), some (.inl x3), some (.inl x4), some (.inr (.inr r2)), none, none, none, none] [] u3.2 else bif decide ((x4 : Int32) ≤ (3 : Int32)) then bif Nat.beq (u3.2.1 x0).1 11 then (G 67 0 [some (.inr (.inr x0)), some (.inr (.inr r2)), some (.inl x2), none, none, none] [] u3.2).bind fun u5 => (asI u5.1).bind fun i6 => bif decide (0 ≤ (i6 : Int32)) then bif Nat.beq (u5.2.1 r2).1 7 then (G 98 0 [some (.inr (.inr r2)), some (.inl x2), some (.inl x3), none, none] [] u5.2).bind fun u7 => (asI u7.1).bind fun i8 => bif decide ((i8 : Int32) ≠ ((-1) : Int32)) then (hgR u7.2 r2 27).bind fun r9 => (hAR u7.2 r9 x2).bind fun r10 => (hAJ u7.2 r10 i8).bind fun j11 => bif decide ((x4 : Int32) = Int32.ofInt 0) then (G 99 0 [some (.inr (.inl j11)), none, none, none, none, none, none, none, none] [] u7.2).bind fun u17 => (asJ u17.1).bind fun j18 => ((if (j18 : Int64) = 0 then none else some (j11 / j18))).bind fun j19 => some (some (.inr (.inl j19)), u17.2) else bif decide ((x4 : Int32) = Int32.ofInt (0 + 1)) then (G 99 0 [some (.inr (.inl j11)), none, none, none, none, none, none, none, none] [] u7.2).bind fun u14 => (asJ u14.1).bind fun j15 => ((if (j15 : Int64) = 0 then none else some (8640 / j15))).bind fun j16 => some (some (.inr (.inl j16)), u14.2) else bif decide ((x4 : Int32) = Int32.ofInt ((0 + 1) + 1)) then ((if (6 : Int32) = 0 then none else some (i8 / 6))).bind fun i13 => some (some (.inr (.inl (i13.toInt64))), u7.2) else ((if (6 : Int32) = 0 then none else some (i8 - i8 / 6 * 6))).bind fun i12 => some (some (.inr (.inl (i12.toInt64))), u7.2) else some (some (.inr (.inl ((-1000001)))), u7.2) else none else some (some (.inr (.inl (i6.toInt64))), u5.2) else none else G 97 34 [some (.inr (.inr x0)), some (.inl x1), some (.inl x2), some (.inl x3), some (.inl x4), some (.inr (.inr r2)), none, none, none, none] [] u3.2 else none) := by
  refine Eq.trans (e1 hG PT_97 k97_0 _ _ _) ?_
  show G 97 1 [some (.inr (.inr x0)), some (.inl x1), some (.inl x2), some (.inl x3), some (.inl x4), none, none, none, none, none] [.inr (.inr x0)] H = _
  refine Eq.trans (e1 hG PT_97 k97_1 _ _ _) ?_
  show G 97 2 [some (.inr (.inr x0)), some (.inl x1), some (.inl x2), some (.inl x3), some (.inl x4), none, none, none, none, none] [.inl x1, .inr (.inr x0)] H = _
  refine Eq.trans (e1 hG PT_97 k97_2 _ _ _) ?_
  refine bfc ?_ ?_
  · refine bdc fun u1 => ?_
    refine bdc fun r2 => ?_
    show G 97 5 [some (.inr (.inr x0)), some (.inl x1), some (.inl x2), some (.inl x3), some (.inl x4), none, none, none, none, none] [.inr (.inr r2)] u1.2 = _
    refine Eq.trans (e1 hG PT_97 k97_5 _ _ _) ?_
    show G 97 7 [some (.inr (.inr x0)), some (.inl x1), some (.inl x2), some (.inl x3), some (.inl x4), some (.inr (.inr r2)), none, none, none, none] [] u1.2 = _
    refine Eq.trans (e1 hG PT_97 k97_7 _ _ _) ?_
    show G 97 9 [some (.inr (.inr x0)), some (.inl x1), some (.inl x2), some (.inl x3), some (.inl x4), some (.inr (.inr r2)), none, none, none, none] [.inr (.inr r2)] u1.2 = _
    refine Eq.trans (e1 hG PT_97 k97_9 _ _ _) ?_
    refine bfc ?_ ?_
    · rfl
    · show G 97 12 [some (.inr (.inr x0)), some (.inl x1), some (.inl x2), some (.inl x3), some (.inl x4), some (.inr (.inr r2)), none, none, none, none] [] u1.2 = _
      refine Eq.trans (e1 hG PT_97 k97_12 _ _ _) ?_
      show G 97 13 [some (.inr (.inr x0)), some (.inl x1), some (.inl x2), some (.inl x3), some (.inl x4), some (.inr (.inr r2)), none, none, none, none] [.inl x2] u1.2 = _
      refine Eq.trans (e1 hG PT_97 k97_13 _ _ _) ?_
      refine bdc fun u3 => ?_
      refine bdc fun i4 => ?_
      show G 97 16 [some (.inr (.inr x0)), some (.inl x1), some (.inl x2), some (.inl x3), some (.inl x4), some (.inr (.inr r2)), none, none, none, none] [.inl i4] u3.2 = _
      refine Eq.trans (e1 hG PT_97 k97_16 _ _ _) ?_
      refine bfc ?_ ?_
      · rfl
      · show G 97 19 [some (.inr (.inr x0)), some (.inl x1), some (.inl x2), some (.inl x3), some (.inl x4), some (.inr (.inr r2)), none, none, none, none] [] u3.2 = _
        refine Eq.trans (e1 hG PT_97 k97_19 _ _ _) ?_
        show G 97 20 [some (.inr (.inr x0)), some (.inl x1), some (.inl x2), some (.inl x3), some (.inl x4), some (.inr (.inr r2)), none, none, none, none] [.inl x3] u3.2 = _
        refine Eq.trans (e1 hG PT_97 k97_20 _ _ _) ?_
        refine bfc ?_ ?_
        · rfl
        · show G 97 23 [some (.inr (.inr x0)), some (.inl x1), some (.inl x2), some (.inl x3), some (.inl x4), some (.inr (.inr r2)), none, none, none, none] [] u3.2 = _
          refine Eq.trans (e1 hG PT_97 k97_23 _ _ _) ?_
          show G 97 25 [some (.inr (.inr x0)), some (.inl x1), some (.inl x2), some (.inl x3), some (.inl x4), some (.inr (.inr r2)), none, none, none, none] [.inl x4] u3.2 = _
          refine Eq.trans (e1 hG PT_97 k97_25 _ _ _) ?_
          refine bfc ?_ ?_
          · rfl
          · show G 97 28 [some (.inr (.inr x0)), some (.inl x1), some (.inl x2), some (.inl x3), some (.inl x4), some (.inr (.inr r2)), none, none, none, none] [] u3.2 = _
            refine Eq.trans (e1 hG PT_97 k97_28 _ _ _) ?_
            show G 97 30 [some (.inr (.inr x0)), some (.inl x1), some (.inl x2), some (.inl x3), some (.inl x4), some (.inr (.inr r2)), none, none, none, none] [.inl x4] u3.2 = _
            refine Eq.trans (e1 hG PT_97 k97_30 _ _ _) ?_
            show G 97 31 [some (.inr (.inr x0)), some (.inl x1), some (.inl x2), some (.inl x3), some (.inl x4), some (.inr (.inr r2)), none, none, none, none] [.inl 3, .inl x4] u3.2 = _
            refine Eq.trans (e1 hG PT_97 k97_31 _ _ _) ?_
            refine bfc ?_ ?_
            · show G 97 38 [some (.inr (.inr x0)), some (.inl x1), some (.inl x2), some (.inl x3), some (.inl x4), some (.inr (.inr r2)), none, none, none, none] [] u3.2 = _
              refine Eq.trans (e1 hG PT_97 k97_38 _ _ _) ?_
              show G 97 39 [some (.inr (.inr x0)), some (.inl x1), some (.inl x2), some (.inl x3), some (.inl x4), some (.inr (.inr r2)), none, none, none, none] [.inr (.inr x0)] u3.2 = _
              refine Eq.trans (e1 hG PT_97 k97_39 _ _ _) ?_
              show G 97 41 [some (.inr (.inr x0)), some (.inl x1), some (.inl x2), some (.inl x3), some (.inl x4), some (.inr (.inr r2)), none, none, none, none] [.inr (.inr r2), .inr (.inr x0)] u3.2 = _
              refine Eq.trans (e1 hG PT_97 k97_41 _ _ _) ?_
              show G 97 42 [some (.inr (.inr x0)), some (.inl x1), some (.inl x2), some (.inl x3), some (.inl x4), some (.inr (.inr r2)), none, none, none, none] [.inl x2, .inr (.inr r2), .inr (.inr x0)] u3.2 = _
              refine Eq.trans (e1 hG PT_97 k97_42 _ _ _) ?_
              refine bfc ?_ ?_
              · refine bdc fun u5 => ?_
                refine bdc fun i6 => ?_
                show G 97 45 [some (.inr (.inr x0)), some (.inl x1), some (.inl x2), some (.inl x3), some (.inl x4), some (.inr (.inr r2)), none, none, none, none] [.inl i6] u5.2 = _
                refine Eq.trans (e1 hG PT_97 k97_45 _ _ _) ?_
                show G 97 47 [some (.inr (.inr x0)), some (.inl x1), some (.inl x2), some (.inl x3), some (.inl x4), some (.inr (.inr r2)), some (.inl i6), none, none, none] [] u5.2 = _
                refine Eq.trans (e1 hG PT_97 k97_47 _ _ _) ?_
                show G 97 49 [some (.inr (.inr x0)), some (.inl x1), some (.inl x2), some (.inl x3), some (.inl x4), some (.inr (.inr r2)), some (.inl i6), none, none, none] [.inl i6] u5.2 = _
                refine Eq.trans (e1 hG PT_97 k97_49 _ _ _) ?_
                refine bfc ?_ ?_
                · show G 97 56 [some (.inr (.inr x0)), some (.inl x1), some (.inl x2), some (.inl x3), some (.inl x4), some (.inr (.inr r2)), some (.inl i6), none, none, none] [] u5.2 = _
                  refine Eq.trans (e1 hG PT_97 k97_56 _ _ _) ?_
                  show G 97 58 [some (.inr (.inr x0)), some (.inl x1), some (.inl x2), some (.inl x3), some (.inl x4), some (.inr (.inr r2)), some (.inl i6), none, none, none] [.inr (.inr r2)] u5.2 = _
                  refine Eq.trans (e1 hG PT_97 k97_58 _ _ _) ?_
                  show G 97 59 [some (.inr (.inr x0)), some (.inl x1), some (.inl x2), some (.inl x3), some (.inl x4), some (.inr (.inr r2)), some (.inl i6), none, none, none] [.inl x2, .inr (.inr r2)] u5.2 = _
                  refine Eq.trans (e1 hG PT_97 k97_59 _ _ _) ?_
                  show G 97 60 [some (.inr (.inr x0)), some (.inl x1), some (.inl x2), some (.inl x3), some (.inl x4), some (.inr (.inr r2)), some (.inl i6), none, none, none] [.inl x3, .inl x2, .inr (.inr r2)] u5.2 = _
                  refine Eq.trans (e1 hG PT_97 k97_60 _ _ _) ?_
                  refine bfc ?_ ?_
                  · refine bdc fun u7 => ?_
                    refine bdc fun i8 => ?_
                    show G 97 63 [some (.inr (.inr x0)), some (.inl x1), some (.inl x2), some (.inl x3), some (.inl x4), some (.inr (.inr r2)), some (.inl i6), none, none, none] [.inl i8] u7.2 = _
                    refine Eq.trans (e1 hG PT_97 k97_63 _ _ _) ?_
                    show G 97 65 [some (.inr (.inr x0)), some (.inl x1), some (.inl x2), some (.inl x3), some (.inl x4), some (.inr (.inr r2)), some (.inl i6), some (.inl i8), none, none] [] u7.2 = _
                    refine Eq.trans (e1 hG PT_97 k97_65 _ _ _) ?_
                    show G 97 67 [some (.inr (.inr x0)), some (.inl x1), some (.inl x2), some (.inl x3), some (.inl x4), some (.inr (.inr r2)), some (.inl i6), some (.inl i8), none, none] [.inl i8] u7.2 = _
                    refine Eq.trans (e1 hG PT_97 k97_67 _ _ _) ?_
                    show G 97 68 [some (.inr (.inr x0)), some (.inl x1), some (.inl x2), some (.inl x3), some (.inl x4), some (.inr (.inr r2)), some (.inl i6), some (.inl i8), none, none] [.inl (-1), .inl i8] u7.2 = _
                    refine Eq.trans (e1 hG PT_97 k97_68 _ _ _) ?_
                    refine bfc ?_ ?_
                    · show G 97 75 [some (.inr (.inr x0)), some (.inl x1), some (.inl x2), some (.inl x3), some (.inl x4), some (.inr (.inr r2)), some (.inl i6), some (.inl i8), none, none] [] u7.2 = _
                      refine Eq.trans (e1 hG PT_97 k97_75 _ _ _) ?_
                      show G 97 77 [some (.inr (.inr x0)), some (.inl x1), some (.inl x2), some (.inl x3), some (.inl x4), some (.inr (.inr r2)), some (.inl i6), some (.inl i8), none, none] [.inr (.inr r2)] u7.2 = _
                      refine Eq.trans (e1 hG PT_97 k97_77 _ _ _) ?_
                      refine bdc fun r9 => ?_
                      show G 97 80 [some (.inr (.inr x0)), some (.inl x1), some (.inl x2), some (.inl x3), some (.inl x4), some (.inr (.inr r2)), some (.inl i6), some (.inl i8), none, none] [.inr (.inr r9)] u7.2 = _
                      refine Eq.trans (e1 hG PT_97 k97_80 _ _ _) ?_
                      show G 97 81 [some (.inr (.inr x0)), some (.inl x1), some (.inl x2), some (.inl x3), some (.inl x4), some (.inr (.inr r2)), some (.inl i6), some (.inl i8), none, none] [.inl x2, .inr (.inr r9)] u7.2 = _
                      refine Eq.trans (e1 hG PT_97 k97_81 _ _ _) ?_
                      refine bdc fun r10 => ?_
                      show G 97 82 [some (.inr (.inr x0)), some (.inl x1), some (.inl x2), some (.inl x3), some (.inl x4), some (.inr (.inr r2)), some (.inl i6), some (.inl i8), none, none] [.inr (.inr r10)] u7.2 = _
                      refine Eq.trans (e1 hG PT_97 k97_82 _ _ _) ?_
                      show G 97 84 [some (.inr (.inr x0)), some (.inl x1), some (.inl x2), some (.inl x3), some (.inl x4), some (.inr (.inr r2)), some (.inl i6), some (.inl i8), none, none] [.inl i8, .inr (.inr r10)] u7.2 = _
                      refine Eq.trans (e1 hG PT_97 k97_84 _ _ _) ?_
                      refine bdc fun j11 => ?_
                      show G 97 85 [some (.inr (.inr x0)), some (.inl x1), some (.inl x2), some (.inl x3), some (.inl x4), some (.inr (.inr r2)), some (.inl i6), some (.inl i8), none, none] [.inr (.inl j11)] u7.2 = _
                      refine Eq.trans (e1 hG PT_97 k97_85 _ _ _) ?_
                      show G 97 87 [some (.inr (.inr x0)), some (.inl x1), some (.inl x2), some (.inl x3), some (.inl x4), some (.inr (.inr r2)), some (.inl i6), some (.inl i8), some (.inr (.inl j11)), none] [] u7.2 = _
                      refine Eq.trans (e1 hG PT_97 k97_87 _ _ _) ?_
                      show G 97 89 [some (.inr (.inr x0)), some (.inl x1), some (.inl x2), some (.inl x3), some (.inl x4), some (.inr (.inr r2)), some (.inl i6), some (.inl i8), some (.inr (.inl j11)), none] [.inl x4] u7.2 = _
                      refine Eq.trans (e1 hG PT_97 k97_89 _ _ _) ?_
                      refine bfc ?_ ?_
                      · show G 97 116 [some (.inr (.inr x0)), some (.inl x1), some (.inl x2), some (.inl x3), some (.inl x4), some (.inr (.inr r2)), some (.inl i6), some (.inl i8), some (.inr (.inl j11)), none] [] u7.2 = _
                        refine Eq.trans (e1 hG PT_97 k97_116 _ _ _) ?_
                        show G 97 118 [some (.inr (.inr x0)), some (.inl x1), some (.inl x2), some (.inl x3), some (.inl x4), some (.inr (.inr r2)), some (.inl i6), some (.inl i8), some (.inr (.inl j11)), none] [.inr (.inl j11)] u7.2 = _
                        refine Eq.trans (e1 hG PT_97 k97_118 _ _ _) ?_
                        show G 97 120 [some (.inr (.inr x0)), some (.inl x1), some (.inl x2), some (.inl x3), some (.inl x4), some (.inr (.inr r2)), some (.inl i6), some (.inl i8), some (.inr (.inl j11)), none] [.inr (.inl j11), .inr (.inl j11)] u7.2 = _
                        refine Eq.trans (e1 hG PT_97 k97_120 _ _ _) ?_
                        refine bdc fun u17 => ?_
                        refine bdc fun j18 => ?_
                        show G 97 123 [some (.inr (.inr x0)), some (.inl x1), some (.inl x2), some (.inl x3), some (.inl x4), some (.inr (.inr r2)), some (.inl i6), some (.inl i8), some (.inr (.inl j11)), none] [.inr (.inl j18), .inr (.inl j11)] u17.2 = _
                        refine Eq.trans (e1 hG PT_97 k97_123 _ _ _) ?_
                        show ((if (j18 : Int64) = 0 then none else some (j11 / j18))).bind (fun j19 => G 97 124 [some (.inr (.inr x0)), some (.inl x1), some (.inl x2), some (.inl x3), some (.inl x4), some (.inr (.inr r2)), some (.inl i6), some (.inl i8), some (.inr (.inl j11)), none] [.inr (.inl j19)] u17.2) = _
                        refine bdc (q := (if (j18 : Int64) = 0 then none else some (j11 / j18))) fun j19 => ?_
                        show G 97 124 [some (.inr (.inr x0)), some (.inl x1), some (.inl x2), some (.inl x3), some (.inl x4), some (.inr (.inr r2)), some (.inl i6), some (.inl i8), some (.inr (.inl j11)), none] [.inr (.inl j19)] u17.2 = _
                        exact e1 hG PT_97 k97_124 _ _ _
                      · refine bfc ?_ ?_
                        · show G 97 125 [some (.inr (.inr x0)), some (.inl x1), some (.inl x2), some (.inl x3), some (.inl x4), some (.inr (.inr r2)), some (.inl i6), some (.inl i8), some (.inr (.inl j11)), none] [] u7.2 = _
                          refine Eq.trans (e1 hG PT_97 k97_125 _ _ _) ?_
                          show G 97 128 [some (.inr (.inr x0)), some (.inl x1), some (.inl x2), some (.inl x3), some (.inl x4), some (.inr (.inr r2)), some (.inl i6), some (.inl i8), some (.inr (.inl j11)), none] [.inr (.inl 8640)] u7.2 = _
                          refine Eq.trans (e1 hG PT_97 k97_128 _ _ _) ?_
                          show G 97 130 [some (.inr (.inr x0)), some (.inl x1), some (.inl x2), some (.inl x3), some (.inl x4), some (.inr (.inr r2)), some (.inl i6), some (.inl i8), some (.inr (.inl j11)), none] [.inr (.inl j11), .inr (.inl 8640)] u7.2 = _
                          refine Eq.trans (e1 hG PT_97 k97_130 _ _ _) ?_
                          refine bdc fun u14 => ?_
                          refine bdc fun j15 => ?_
                          show G 97 133 [some (.inr (.inr x0)), some (.inl x1), some (.inl x2), some (.inl x3), some (.inl x4), some (.inr (.inr r2)), some (.inl i6), some (.inl i8), some (.inr (.inl j11)), none] [.inr (.inl j15), .inr (.inl 8640)] u14.2 = _
                          refine Eq.trans (e1 hG PT_97 k97_133 _ _ _) ?_
                          show ((if (j15 : Int64) = 0 then none else some (8640 / j15))).bind (fun j16 => G 97 134 [some (.inr (.inr x0)), some (.inl x1), some (.inl x2), some (.inl x3), some (.inl x4), some (.inr (.inr r2)), some (.inl i6), some (.inl i8), some (.inr (.inl j11)), none] [.inr (.inl j16)] u14.2) = _
                          refine bdc (q := (if (j15 : Int64) = 0 then none else some (8640 / j15))) fun j16 => ?_
                          show G 97 134 [some (.inr (.inr x0)), some (.inl x1), some (.inl x2), some (.inl x3), some (.inl x4), some (.inr (.inr r2)), some (.inl i6), some (.inl i8), some (.inr (.inl j11)), none] [.inr (.inl j16)] u14.2 = _
                          exact e1 hG PT_97 k97_134 _ _ _
                        · refine bfc ?_ ?_
                          · show G 97 135 [some (.inr (.inr x0)), some (.inl x1), some (.inl x2), some (.inl x3), some (.inl x4), some (.inr (.inr r2)), some (.inl i6), some (.inl i8), some (.inr (.inl j11)), none] [] u7.2 = _
                            refine Eq.trans (e1 hG PT_97 k97_135 _ _ _) ?_
                            show G 97 137 [some (.inr (.inr x0)), some (.inl x1), some (.inl x2), some (.inl x3), some (.inl x4), some (.inr (.inr r2)), some (.inl i6), some (.inl i8), some (.inr (.inl j11)), none] [.inl i8] u7.2 = _
                            refine Eq.trans (e1 hG PT_97 k97_137 _ _ _) ?_
                            show G 97 139 [some (.inr (.inr x0)), some (.inl x1), some (.inl x2), some (.inl x3), some (.inl x4), some (.inr (.inr r2)), some (.inl i6), some (.inl i8), some (.inr (.inl j11)), none] [.inl 6, .inl i8] u7.2 = _
                            refine Eq.trans (e1 hG PT_97 k97_139 _ _ _) ?_
                            show ((if (6 : Int32) = 0 then none else some (i8 / 6))).bind (fun i13 => G 97 140 [some (.inr (.inr x0)), some (.inl x1), some (.inl x2), some (.inl x3), some (.inl x4), some (.inr (.inr r2)), some (.inl i6), some (.inl i8), some (.inr (.inl j11)), none] [.inl i13] u7.2) = _
                            refine bdc (q := (if (6 : Int32) = 0 then none else some (i8 / 6))) fun i13 => ?_
                            show G 97 140 [some (.inr (.inr x0)), some (.inl x1), some (.inl x2), some (.inl x3), some (.inl x4), some (.inr (.inr r2)), some (.inl i6), some (.inl i8), some (.inr (.inl j11)), none] [.inl i13] u7.2 = _
                            refine Eq.trans (e1 hG PT_97 k97_140 _ _ _) ?_
                            show G 97 141 [some (.inr (.inr x0)), some (.inl x1), some (.inl x2), some (.inl x3), some (.inl x4), some (.inr (.inr r2)), some (.inl i6), some (.inl i8), some (.inr (.inl j11)), none] [.inr (.inl i13.toInt64)] u7.2 = _
                            exact e1 hG PT_97 k97_141 _ _ _
                          · show G 97 142 [some (.inr (.inr x0)), some (.inl x1), some (.inl x2), some (.inl x3), some (.inl x4), some (.inr (.inr r2)), some (.inl i6), some (.inl i8), some (.inr (.inl j11)), none] [] u7.2 = _
                            refine Eq.trans (e1 hG PT_97 k97_142 _ _ _) ?_
                            show G 97 144 [some (.inr (.inr x0)), some (.inl x1), some (.inl x2), some (.inl x3), some (.inl x4), some (.inr (.inr r2)), some (.inl i6), some (.inl i8), some (.inr (.inl j11)), none] [.inl i8] u7.2 = _
                            refine Eq.trans (e1 hG PT_97 k97_144 _ _ _) ?_
                            show G 97 146 [some (.inr (.inr x0)), some (.inl x1), some (.inl x2), some (.inl x3), some (.inl x4), some (.inr (.inr r2)), some (.inl i6), some (.inl i8), some (.inr (.inl j11)), none] [.inl 6, .inl i8] u7.2 = _
                            refine Eq.trans (e1 hG PT_97 k97_146 _ _ _) ?_
                            show ((if (6 : Int32) = 0 then none else some (i8 - i8 / 6 * 6))).bind (fun i12 => G 97 147 [some (.inr (.inr x0)), some (.inl x1), some (.inl x2), some (.inl x3), some (.inl x4), some (.inr (.inr r2)), some (.inl i6), some (.inl i8), some (.inr (.inl j11)), none] [.inl i12] u7.2) = _
                            refine bdc (q := (if (6 : Int32) = 0 then none else some (i8 - i8 / 6 * 6))) fun i12 => ?_
                            show G 97 147 [some (.inr (.inr x0)), some (.inl x1), some (.inl x2), some (.inl x3), some (.inl x4), some (.inr (.inr r2)), some (.inl i6), some (.inl i8), some (.inr (.inl j11)), none] [.inl i12] u7.2 = _
                            refine Eq.trans (e1 hG PT_97 k97_147 _ _ _) ?_
                            show G 97 148 [some (.inr (.inr x0)), some (.inl x1), some (.inl x2), some (.inl x3), some (.inl x4), some (.inr (.inr r2)), some (.inl i6), some (.inl i8), some (.inr (.inl j11)), none] [.inr (.inl i12.toInt64)] u7.2 = _
                            exact e1 hG PT_97 k97_148 _ _ _
                    · show G 97 71 [some (.inr (.inr x0)), some (.inl x1), some (.inl x2), some (.inl x3), some (.inl x4), some (.inr (.inr r2)), some (.inl i6), some (.inl i8), none, none] [] u7.2 = _
                      refine Eq.trans (e1 hG PT_97 k97_71 _ _ _) ?_
                      show G 97 74 [some (.inr (.inr x0)), some (.inl x1), some (.inl x2), some (.inl x3), some (.inl x4), some (.inr (.inr r2)), some (.inl i6), some (.inl i8), none, none] [.inr (.inl (-1000001))] u7.2 = _
                      exact e1 hG PT_97 k97_74 _ _ _
                  · rfl
                · show G 97 52 [some (.inr (.inr x0)), some (.inl x1), some (.inl x2), some (.inl x3), some (.inl x4), some (.inr (.inr r2)), some (.inl i6), none, none, none] [] u5.2 = _
                  refine Eq.trans (e1 hG PT_97 k97_52 _ _ _) ?_
                  show G 97 54 [some (.inr (.inr x0)), some (.inl x1), some (.inl x2), some (.inl x3), some (.inl x4), some (.inr (.inr r2)), some (.inl i6), none, none, none] [.inl i6] u5.2 = _
                  refine Eq.trans (e1 hG PT_97 k97_54 _ _ _) ?_
                  show G 97 55 [some (.inr (.inr x0)), some (.inl x1), some (.inl x2), some (.inl x3), some (.inl x4), some (.inr (.inr r2)), some (.inl i6), none, none, none] [.inr (.inl i6.toInt64)] u5.2 = _
                  exact e1 hG PT_97 k97_55 _ _ _
              · rfl
            · rfl
  · rfl
theorem b97_34 {G : AG} (hG : FIX G) (x0 : Nat) (x1 : Int32) (x2 : Int32) (x3 : Int32) (x4 : Int32) (x5 : Nat) (H : Hp) : G 97 34 [some (.inr (.inr x0)), some (.inl x1), some (.inl x2), some (.inl x3), some (.inl x4), some (.inr (.inr x5)), none, none, none, none] [] H = (some (some (.inr (.inl ((-1000001)))), H)) := by
  refine Eq.trans (e1 hG PT_97 k97_34 _ _ _) ?_
  show G 97 37 [some (.inr (.inr x0)), some (.inl x1), some (.inl x2), some (.inl x3), some (.inl x4), some (.inr (.inr x5)), none, none, none, none] [.inr (.inl (-1000001))] H = _
  exact e1 hG PT_97 k97_37 _ _ _
-- StepsAhead$Routine.termPlace(II)I
theorem PT_98 : PT 98 = pt98 := rfl
theorem k98_0 : lkp pt98 0 = iP 1 (fK (.inl 0)) := rfl
theorem k98_1 : lkp pt98 1 = iP 2 (fIst 3) := rfl
theorem k98_2 : lkp pt98 2 = iP 4 (fK (.inl 35)) := rfl
theorem k98_4 : lkp pt98 4 = iP 6 (fIst 4) := rfl
theorem k98_6 : lkp pt98 6 = iP 8 (fIld 4) := rfl
theorem k98_8 : lkp pt98 8 = iB 11 42 (b1 (fun x => decide (x < 0))) := rfl
theorem k98_11 : lkp pt98 11 = iP 12 (fAld 0) := rfl
theorem k98_12 : lkp pt98 12 = iRR 15 (gtR 27) := rfl
theorem k98_15 : lkp pt98 15 = iP 16 (fIld 1) := rfl
theorem k98_16 : lkp pt98 16 = iRR 17 qAR := rfl
theorem k98_17 : lkp pt98 17 = iP 19 (fIld 4) := rfl
theorem k98_19 : lkp pt98 19 = iRJ 20 qAJ := rfl
theorem k98_20 : lkp pt98 20 = iP 21 (fK (.inr (.inl 0))) := rfl
theorem k98_21 : lkp pt98 21 = iP 22 fLcmp := rfl
theorem k98_22 : lkp pt98 22 = iB 25 36 (b1 (fun x => decide (x = 0))) := rfl
theorem k98_25 : lkp pt98 25 = iP 26 (fIld 3) := rfl
theorem k98_26 : lkp pt98 26 = iP 27 (fIld 2) := rfl
theorem k98_27 : lkp pt98 27 = iB 30 33 (b2 (fun x y => decide (x ≠ y))) := rfl
theorem k98_30 : lkp pt98 30 = iP 32 (fIld 4) := rfl
theorem k98_32 : lkp pt98 32 = iRet rI := rfl
theorem k98_33 : lkp pt98 33 = iP 36 (fInc 3 1) := rfl
theorem k98_36 : lkp pt98 36 = iP 39 (fInc 4 (-1)) := rfl
theorem k98_39 : lkp pt98 39 = iP 6 fGo := rfl
theorem k98_42 : lkp pt98 42 = iP 43 (fK (.inl (-1))) := rfl
theorem k98_43 : lkp pt98 43 = iRet rI := rfl
theorem b98_0 {G : AG} (hG : FIX G) (x0 : Nat) (x1 : Int32) (x2 : Int32) (H : Hp) : G 98 0 [some (.inr (.inr x0)), some (.inl x1), some (.inl x2), none, none] [] H = (G 98 6 [some (.inr (.inr x0)), some (.inl x1), some (.inl x2), some (.inl 0), some (.inl 35)] [] H) := by
  refine Eq.trans (e1 hG PT_98 k98_0 _ _ _) ?_
  show G 98 1 [some (.inr (.inr x0)), some (.inl x1), some (.inl x2), none, none] [.inl 0] H = _
  refine Eq.trans (e1 hG PT_98 k98_1 _ _ _) ?_
  show G 98 2 [some (.inr (.inr x0)), some (.inl x1), some (.inl x2), some (.inl 0), none] [] H = _
  refine Eq.trans (e1 hG PT_98 k98_2 _ _ _) ?_
  show G 98 4 [some (.inr (.inr x0)), some (.inl x1), some (.inl x2), some (.inl 0), none] [.inl 35] H = _
  refine Eq.trans (e1 hG PT_98 k98_4 _ _ _) ?_
  rfl
theorem b98_6 {G : AG} (hG : FIX G) (x0 : Nat) (x1 : Int32) (x2 : Int32) (x3 : Int32) (x4 : Int32) (H : Hp) : G 98 6 [some (.inr (.inr x0)), some (.inl x1), some (.inl x2), some (.inl x3), some (.inl x4)] [] H = (bif decide ((x4 : Int32) < 0) then some (some (.inl ((-1))), H) else (hgR H x0 27).bind fun r1 => (hAR H r1 x1).bind fun r2 => (hAJ H r2 x4).bind fun j3 => bif decide (((lg_cmp j3 0) : Int32) = 0) then G 98 36 [some (.inr (.inr x0)), some (.inl x1), some (.inl x2), some (.inl x3), some (.inl x4)] [] H else bif decide ((x3 : Int32) ≠ (x2 : Int32)) then G 98 36 [some (.inr (.inr x0)), some (.inl x1), some (.inl x2), some (.inl (x3 + 1)), some (.inl x4)] [] H else some (some (.inl x4), H)) := by
  refine Eq.trans (e1 hG PT_98 k98_6 _ _ _) ?_
  show G 98 8 [some (.inr (.inr x0)), some (.inl x1), some (.inl x2), some (.inl x3), some (.inl x4)] [.inl x4] H = _
  refine Eq.trans (e1 hG PT_98 k98_8 _ _ _) ?_
  refine bfc ?_ ?_
  · show G 98 42 [some (.inr (.inr x0)), some (.inl x1), some (.inl x2), some (.inl x3), some (.inl x4)] [] H = _
    refine Eq.trans (e1 hG PT_98 k98_42 _ _ _) ?_
    show G 98 43 [some (.inr (.inr x0)), some (.inl x1), some (.inl x2), some (.inl x3), some (.inl x4)] [.inl (-1)] H = _
    exact e1 hG PT_98 k98_43 _ _ _
  · show G 98 11 [some (.inr (.inr x0)), some (.inl x1), some (.inl x2), some (.inl x3), some (.inl x4)] [] H = _
    refine Eq.trans (e1 hG PT_98 k98_11 _ _ _) ?_
    show G 98 12 [some (.inr (.inr x0)), some (.inl x1), some (.inl x2), some (.inl x3), some (.inl x4)] [.inr (.inr x0)] H = _
    refine Eq.trans (e1 hG PT_98 k98_12 _ _ _) ?_
    refine bdc fun r1 => ?_
    show G 98 15 [some (.inr (.inr x0)), some (.inl x1), some (.inl x2), some (.inl x3), some (.inl x4)] [.inr (.inr r1)] H = _
    refine Eq.trans (e1 hG PT_98 k98_15 _ _ _) ?_
    show G 98 16 [some (.inr (.inr x0)), some (.inl x1), some (.inl x2), some (.inl x3), some (.inl x4)] [.inl x1, .inr (.inr r1)] H = _
    refine Eq.trans (e1 hG PT_98 k98_16 _ _ _) ?_
    refine bdc fun r2 => ?_
    show G 98 17 [some (.inr (.inr x0)), some (.inl x1), some (.inl x2), some (.inl x3), some (.inl x4)] [.inr (.inr r2)] H = _
    refine Eq.trans (e1 hG PT_98 k98_17 _ _ _) ?_
    show G 98 19 [some (.inr (.inr x0)), some (.inl x1), some (.inl x2), some (.inl x3), some (.inl x4)] [.inl x4, .inr (.inr r2)] H = _
    refine Eq.trans (e1 hG PT_98 k98_19 _ _ _) ?_
    refine bdc fun j3 => ?_
    show G 98 20 [some (.inr (.inr x0)), some (.inl x1), some (.inl x2), some (.inl x3), some (.inl x4)] [.inr (.inl j3)] H = _
    refine Eq.trans (e1 hG PT_98 k98_20 _ _ _) ?_
    show G 98 21 [some (.inr (.inr x0)), some (.inl x1), some (.inl x2), some (.inl x3), some (.inl x4)] [.inr (.inl 0), .inr (.inl j3)] H = _
    refine Eq.trans (e1 hG PT_98 k98_21 _ _ _) ?_
    show G 98 22 [some (.inr (.inr x0)), some (.inl x1), some (.inl x2), some (.inl x3), some (.inl x4)] [.inl (lg_cmp j3 0)] H = _
    refine Eq.trans (e1 hG PT_98 k98_22 _ _ _) ?_
    refine bfc ?_ ?_
    · rfl
    · show G 98 25 [some (.inr (.inr x0)), some (.inl x1), some (.inl x2), some (.inl x3), some (.inl x4)] [] H = _
      refine Eq.trans (e1 hG PT_98 k98_25 _ _ _) ?_
      show G 98 26 [some (.inr (.inr x0)), some (.inl x1), some (.inl x2), some (.inl x3), some (.inl x4)] [.inl x3] H = _
      refine Eq.trans (e1 hG PT_98 k98_26 _ _ _) ?_
      show G 98 27 [some (.inr (.inr x0)), some (.inl x1), some (.inl x2), some (.inl x3), some (.inl x4)] [.inl x2, .inl x3] H = _
      refine Eq.trans (e1 hG PT_98 k98_27 _ _ _) ?_
      refine bfc ?_ ?_
      · show G 98 33 [some (.inr (.inr x0)), some (.inl x1), some (.inl x2), some (.inl x3), some (.inl x4)] [] H = _
        refine Eq.trans (e1 hG PT_98 k98_33 _ _ _) ?_
        rfl
      · show G 98 30 [some (.inr (.inr x0)), some (.inl x1), some (.inl x2), some (.inl x3), some (.inl x4)] [] H = _
        refine Eq.trans (e1 hG PT_98 k98_30 _ _ _) ?_
        show G 98 32 [some (.inr (.inr x0)), some (.inl x1), some (.inl x2), some (.inl x3), some (.inl x4)] [.inl x4] H = _
        exact e1 hG PT_98 k98_32 _ _ _
theorem b98_36 {G : AG} (hG : FIX G) (x0 : Nat) (x1 : Int32) (x2 : Int32) (x3 : Int32) (x4 : Int32) (H : Hp) : G 98 36 [some (.inr (.inr x0)), some (.inl x1), some (.inl x2), some (.inl x3), some (.inl x4)] [] H = (G 98 6 [some (.inr (.inr x0)), some (.inl x1), some (.inl x2), some (.inl x3), some (.inl (x4 + (-1)))] [] H) := by
  refine Eq.trans (e1 hG PT_98 k98_36 _ _ _) ?_
  show G 98 39 [some (.inr (.inr x0)), some (.inl x1), some (.inl x2), some (.inl x3), some (.inl (x4 + (-1)))] [] H = _
  refine Eq.trans (e1 hG PT_98 k98_39 _ _ _) ?_
  rfl
-- StepsAhead.commonDivisor(J)J
theorem PT_99 : PT 99 = pt99 := rfl
theorem k99_0 : lkp pt99 0 = iP 3 (fK (.inr (.inl 8640))) := rfl
theorem k99_3 : lkp pt99 3 = iP 4 (fLst 2) := rfl
theorem k99_4 : lkp pt99 4 = iP 5 (fJld 0) := rfl
theorem k99_5 : lkp pt99 5 = iP 8 (fMJ1 (fun x => if 0 < x then x else -x)) := rfl
theorem k99_8 : lkp pt99 8 = iP 11 (fK (.inr (.inl 8640))) := rfl
theorem k99_11 : lkp pt99 11 = iRJ 12 (q2J (fun x y => x - x / y * y)) := rfl
theorem k99_12 : lkp pt99 12 = iP 14 (fLst 4) := rfl
theorem k99_14 : lkp pt99 14 = iP 15 (fK (.inl 0)) := rfl
theorem k99_15 : lkp pt99 15 = iP 17 (fIst 6) := rfl
theorem k99_17 : lkp pt99 17 = iP 19 (fIld 6) := rfl
theorem k99_19 : lkp pt99 19 = iP 21 (fK (.inl 64)) := rfl
theorem k99_21 : lkp pt99 21 = iB 24 50 (b2 (fun x y => decide (y ≤ x))) := rfl
theorem k99_24 : lkp pt99 24 = iP 26 (fJld 4) := rfl
theorem k99_26 : lkp pt99 26 = iP 27 (fK (.inr (.inl 0))) := rfl
theorem k99_27 : lkp pt99 27 = iP 28 fLcmp := rfl
theorem k99_28 : lkp pt99 28 = iB 31 50 (b1 (fun x => decide (x = 0))) := rfl
theorem k99_31 : lkp pt99 31 = iP 32 (fJld 2) := rfl
theorem k99_32 : lkp pt99 32 = iP 34 (fJld 4) := rfl
theorem k99_34 : lkp pt99 34 = iRJ 35 (q2J (fun x y => x - x / y * y)) := rfl
theorem k99_35 : lkp pt99 35 = iP 37 (fLst 7) := rfl
theorem k99_37 : lkp pt99 37 = iP 39 (fJld 4) := rfl
theorem k99_39 : lkp pt99 39 = iP 40 (fLst 2) := rfl
theorem k99_40 : lkp pt99 40 = iP 42 (fJld 7) := rfl
theorem k99_42 : lkp pt99 42 = iP 44 (fLst 4) := rfl
theorem k99_44 : lkp pt99 44 = iP 47 (fInc 6 1) := rfl
theorem k99_47 : lkp pt99 47 = iP 17 fGo := rfl
theorem k99_50 : lkp pt99 50 = iP 51 (fJld 2) := rfl
theorem k99_51 : lkp pt99 51 = iP 52 (fK (.inr (.inl 1))) := rfl
theorem k99_52 : lkp pt99 52 = iP 55 (fMJ2 (fun x y => if y < x then x else y)) := rfl
theorem k99_55 : lkp pt99 55 = iRet rJ := rfl
theorem b99_0 {G : AG} (hG : FIX G) (x0 : Int64) (H : Hp) : G 99 0 [some (.inr (.inl x0)), none, none, none, none, none, none, none, none] [] H = (((if (8640 : Int64) = 0 then none else some ((if 0 < x0 then x0 else -x0) - (if 0 < x0 then x0 else -x0) / 8640 * 8640))).bind fun j1 => G 99 17 [some (.inr (.inl x0)), none, some (.inr (.inl 8640)), none, some (.inr (.inl j1)), none, some (.inl 0), none, none] [] H) := by
  refine Eq.trans (e1 hG PT_99 k99_0 _ _ _) ?_
  show G 99 3 [some (.inr (.inl x0)), none, none, none, none, none, none, none, none] [.inr (.inl 8640)] H = _
  refine Eq.trans (e1 hG PT_99 k99_3 _ _ _) ?_
  show G 99 4 [some (.inr (.inl x0)), none, some (.inr (.inl 8640)), none, none, none, none, none, none] [] H = _
  refine Eq.trans (e1 hG PT_99 k99_4 _ _ _) ?_
  show G 99 5 [some (.inr (.inl x0)), none, some (.inr (.inl 8640)), none, none, none, none, none, none] [.inr (.inl x0)] H = _
  refine Eq.trans (e1 hG PT_99 k99_5 _ _ _) ?_
  show G 99 8 [some (.inr (.inl x0)), none, some (.inr (.inl 8640)), none, none, none, none, none, none] [.inr (.inl (if 0 < x0 then x0 else -x0))] H = _
  refine Eq.trans (e1 hG PT_99 k99_8 _ _ _) ?_
  show G 99 11 [some (.inr (.inl x0)), none, some (.inr (.inl 8640)), none, none, none, none, none, none] [.inr (.inl 8640), .inr (.inl (if 0 < x0 then x0 else -x0))] H = _
  refine Eq.trans (e1 hG PT_99 k99_11 _ _ _) ?_
  show ((if (8640 : Int64) = 0 then none else some ((if 0 < x0 then x0 else -x0) - (if 0 < x0 then x0 else -x0) / 8640 * 8640))).bind (fun j1 => G 99 12 [some (.inr (.inl x0)), none, some (.inr (.inl 8640)), none, none, none, none, none, none] [.inr (.inl j1)] H) = _
  refine bdc (q := (if (8640 : Int64) = 0 then none else some ((if 0 < x0 then x0 else -x0) - (if 0 < x0 then x0 else -x0) / 8640 * 8640))) fun j1 => ?_
  show G 99 12 [some (.inr (.inl x0)), none, some (.inr (.inl 8640)), none, none, none, none, none, none] [.inr (.inl j1)] H = _
  refine Eq.trans (e1 hG PT_99 k99_12 _ _ _) ?_
  show G 99 14 [some (.inr (.inl x0)), none, some (.inr (.inl 8640)), none, some (.inr (.inl j1)), none, none, none, none] [] H = _
  refine Eq.trans (e1 hG PT_99 k99_14 _ _ _) ?_
  show G 99 15 [some (.inr (.inl x0)), none, some (.inr (.inl 8640)), none, some (.inr (.inl j1)), none, none, none, none] [.inl 0] H = _
  refine Eq.trans (e1 hG PT_99 k99_15 _ _ _) ?_
  rfl
theorem b99_17 {G : AG} (hG : FIX G) (x0 : Int64) (x2 : Int64) (x4 : Int64) (x6 : Int32) (o7 : Option AV) (H : Hp) : G 99 17 [some (.inr (.inl x0)), none, some (.inr (.inl x2)), none, some (.inr (.inl x4)), none, some (.inl x6), o7, none] [] H = (bif decide ((64 : Int32) ≤ (x6 : Int32)) then G 99 50 [some (.inr (.inl x0)), none, some (.inr (.inl x2)), none, some (.inr (.inl x4)), none, some (.inl x6), o7, none] [] H else bif decide (((lg_cmp x4 0) : Int32) = 0) then G 99 50 [some (.inr (.inl x0)), none, some (.inr (.inl x2)), none, some (.inr (.inl x4)), none, some (.inl x6), o7, none] [] H else ((if (x4 : Int64) = 0 then none else some (x2 - x2 / x4 * x4))).bind fun j1 => G 99 17 [some (.inr (.inl x0)), none, some (.inr (.inl x4)), none, some (.inr (.inl j1)), none, some (.inl (x6 + 1)), some (.inr (.inl j1)), none] [] H) := by
  refine Eq.trans (e1 hG PT_99 k99_17 _ _ _) ?_
  show G 99 19 [some (.inr (.inl x0)), none, some (.inr (.inl x2)), none, some (.inr (.inl x4)), none, some (.inl x6), o7, none] [.inl x6] H = _
  refine Eq.trans (e1 hG PT_99 k99_19 _ _ _) ?_
  show G 99 21 [some (.inr (.inl x0)), none, some (.inr (.inl x2)), none, some (.inr (.inl x4)), none, some (.inl x6), o7, none] [.inl 64, .inl x6] H = _
  refine Eq.trans (e1 hG PT_99 k99_21 _ _ _) ?_
  refine bfc ?_ ?_
  · rfl
  · show G 99 24 [some (.inr (.inl x0)), none, some (.inr (.inl x2)), none, some (.inr (.inl x4)), none, some (.inl x6), o7, none] [] H = _
    refine Eq.trans (e1 hG PT_99 k99_24 _ _ _) ?_
    show G 99 26 [some (.inr (.inl x0)), none, some (.inr (.inl x2)), none, some (.inr (.inl x4)), none, some (.inl x6), o7, none] [.inr (.inl x4)] H = _
    refine Eq.trans (e1 hG PT_99 k99_26 _ _ _) ?_
    show G 99 27 [some (.inr (.inl x0)), none, some (.inr (.inl x2)), none, some (.inr (.inl x4)), none, some (.inl x6), o7, none] [.inr (.inl 0), .inr (.inl x4)] H = _
    refine Eq.trans (e1 hG PT_99 k99_27 _ _ _) ?_
    show G 99 28 [some (.inr (.inl x0)), none, some (.inr (.inl x2)), none, some (.inr (.inl x4)), none, some (.inl x6), o7, none] [.inl (lg_cmp x4 0)] H = _
    refine Eq.trans (e1 hG PT_99 k99_28 _ _ _) ?_
    refine bfc ?_ ?_
    · rfl
    · show G 99 31 [some (.inr (.inl x0)), none, some (.inr (.inl x2)), none, some (.inr (.inl x4)), none, some (.inl x6), o7, none] [] H = _
      refine Eq.trans (e1 hG PT_99 k99_31 _ _ _) ?_
      show G 99 32 [some (.inr (.inl x0)), none, some (.inr (.inl x2)), none, some (.inr (.inl x4)), none, some (.inl x6), o7, none] [.inr (.inl x2)] H = _
      refine Eq.trans (e1 hG PT_99 k99_32 _ _ _) ?_
      show G 99 34 [some (.inr (.inl x0)), none, some (.inr (.inl x2)), none, some (.inr (.inl x4)), none, some (.inl x6), o7, none] [.inr (.inl x4), .inr (.inl x2)] H = _
      refine Eq.trans (e1 hG PT_99 k99_34 _ _ _) ?_
      show ((if (x4 : Int64) = 0 then none else some (x2 - x2 / x4 * x4))).bind (fun j1 => G 99 35 [some (.inr (.inl x0)), none, some (.inr (.inl x2)), none, some (.inr (.inl x4)), none, some (.inl x6), o7, none] [.inr (.inl j1)] H) = _
      refine bdc (q := (if (x4 : Int64) = 0 then none else some (x2 - x2 / x4 * x4))) fun j1 => ?_
      show G 99 35 [some (.inr (.inl x0)), none, some (.inr (.inl x2)), none, some (.inr (.inl x4)), none, some (.inl x6), o7, none] [.inr (.inl j1)] H = _
      refine Eq.trans (e1 hG PT_99 k99_35 _ _ _) ?_
      show G 99 37 [some (.inr (.inl x0)), none, some (.inr (.inl x2)), none, some (.inr (.inl x4)), none, some (.inl x6), some (.inr (.inl j1)), none] [] H = _
      refine Eq.trans (e1 hG PT_99 k99_37 _ _ _) ?_
      show G 99 39 [some (.inr (.inl x0)), none, some (.inr (.inl x2)), none, some (.inr (.inl x4)), none, some (.inl x6), some (.inr (.inl j1)), none] [.inr (.inl x4)] H = _
      refine Eq.trans (e1 hG PT_99 k99_39 _ _ _) ?_
      show G 99 40 [some (.inr (.inl x0)), none, some (.inr (.inl x4)), none, some (.inr (.inl x4)), none, some (.inl x6), some (.inr (.inl j1)), none] [] H = _
      refine Eq.trans (e1 hG PT_99 k99_40 _ _ _) ?_
      show G 99 42 [some (.inr (.inl x0)), none, some (.inr (.inl x4)), none, some (.inr (.inl x4)), none, some (.inl x6), some (.inr (.inl j1)), none] [.inr (.inl j1)] H = _
      refine Eq.trans (e1 hG PT_99 k99_42 _ _ _) ?_
      show G 99 44 [some (.inr (.inl x0)), none, some (.inr (.inl x4)), none, some (.inr (.inl j1)), none, some (.inl x6), some (.inr (.inl j1)), none] [] H = _
      refine Eq.trans (e1 hG PT_99 k99_44 _ _ _) ?_
      show G 99 47 [some (.inr (.inl x0)), none, some (.inr (.inl x4)), none, some (.inr (.inl j1)), none, some (.inl (x6 + 1)), some (.inr (.inl j1)), none] [] H = _
      refine Eq.trans (e1 hG PT_99 k99_47 _ _ _) ?_
      rfl
theorem b99_50 {G : AG} (hG : FIX G) (x0 : Int64) (x2 : Int64) (x4 : Int64) (x6 : Int32) (o7 : Option AV) (H : Hp) : G 99 50 [some (.inr (.inl x0)), none, some (.inr (.inl x2)), none, some (.inr (.inl x4)), none, some (.inl x6), o7, none] [] H = (some (some (.inr (.inl ((if 1 < x2 then x2 else 1)))), H)) := by
  refine Eq.trans (e1 hG PT_99 k99_50 _ _ _) ?_
  show G 99 51 [some (.inr (.inl x0)), none, some (.inr (.inl x2)), none, some (.inr (.inl x4)), none, some (.inl x6), o7, none] [.inr (.inl x2)] H = _
  refine Eq.trans (e1 hG PT_99 k99_51 _ _ _) ?_
  show G 99 52 [some (.inr (.inl x0)), none, some (.inr (.inl x2)), none, some (.inr (.inl x4)), none, some (.inl x6), o7, none] [.inr (.inl 1), .inr (.inl x2)] H = _
  refine Eq.trans (e1 hG PT_99 k99_52 _ _ _) ?_
  show G 99 55 [some (.inr (.inl x0)), none, some (.inr (.inl x2)), none, some (.inr (.inl x4)), none, some (.inl x6), o7, none] [.inr (.inl (if 1 < x2 then x2 else 1))] H = _
  exact e1 hG PT_99 k99_55 _ _ _
-- StepsAhead.value(IIII)J
theorem PT_101 : PT 101 = pt101 := rfl
theorem k101_0 : lkp pt101 0 = iP 1 (fAld 0) := rfl
theorem k101_1 : lkp pt101 1 = iP 2 (fIld 1) := rfl
theorem k101_2 : lkp pt101 2 = iCK 5 11 15 2 2 3 := rfl
theorem k101_5 : lkp pt101 5 = iP 7 (fAst 5) := rfl
theorem k101_7 : lkp pt101 7 = iP 9 (fAld 5) := rfl
theorem k101_9 : lkp pt101 9 = iB 12 34 bN := rfl
theorem k101_12 : lkp pt101 12 = iP 13 (fIld 2) := rfl
theorem k101_13 : lkp pt101 13 = iC 16 66 1 1 1 := rfl
theorem k101_16 : lkp pt101 16 = iB 19 34 (b1 (fun x => decide (x = 0))) := rfl
theorem k101_19 : lkp pt101 19 = iP 20 (fIld 3) := rfl
theorem k101_20 : lkp pt101 20 = iC 23 102 1 1 1 := rfl
theorem k101_23 : lkp pt101 23 = iB 26 34 (b1 (fun x => decide (x = 0))) := rfl
theorem k101_26 : lkp pt101 26 = iP 28 (fIld 4) := rfl
theorem k101_28 : lkp pt101 28 = iC 31 102 1 1 1 := rfl
theorem k101_31 : lkp pt101 31 = iB 34 38 (b1 (fun x => decide (x ≠ 0))) := rfl
theorem k101_34 : lkp pt101 34 = iP 37 (fK (.inr (.inl (-1000001)))) := rfl
theorem k101_37 : lkp pt101 37 = iRet rJ := rfl
theorem k101_38 : lkp pt101 38 = iP 39 (fAld 0) := rfl
theorem k101_39 : lkp pt101 39 = iP 41 (fAld 5) := rfl
theorem k101_41 : lkp pt101 41 = iP 42 (fIld 2) := rfl
theorem k101_42 : lkp pt101 42 = iCK 45 11 67 6 3 1 := rfl
theorem k101_45 : lkp pt101 45 = iP 47 (fIst 6) := rfl
theorem k101_47 : lkp pt101 47 = iP 49 (fIld 6) := rfl
theorem k101_49 : lkp pt101 49 = iB 52 58 (b1 (fun x => decide (0 ≤ x))) := rfl
theorem k101_52 : lkp pt101 52 = iP 54 (fIld 6) := rfl
theorem k101_54 : lkp pt101 54 = iP 55 fI2l := rfl
theorem k101_55 : lkp pt101 55 = iP 67 fGo := rfl
theorem k101_58 : lkp pt101 58 = iP 60 (fAld 5) := rfl
theorem k101_60 : lkp pt101 60 = iP 61 (fIld 2) := rfl
theorem k101_61 : lkp pt101 61 = iP 62 (fIld 3) := rfl
theorem k101_62 : lkp pt101 62 = iP 64 (fIld 4) := rfl
theorem k101_64 : lkp pt101 64 = iCK 67 7 103 10 4 2 := rfl
theorem k101_67 : lkp pt101 67 = iRet rJ := rfl
theorem b101_0 {G : AG} (hG : FIX G) (x0 : Nat) (x1 : Int32) (x2 : Int32) (x3 : Int32) (x4 : Int32) (H : Hp) : G 101 0 [some (.inr (.inr x0)), some (.inl x1), some (.inl x2), some (.inl x3), some (.inl x4), none, none] [] H = (bif Nat.beq (H.1 x0).1 11 then (G 15 0 [some (.inr (.inr x0)), some (.inl x1)] [] H).bind fun u1 => (asR u1.1).bind fun r2 => bif Nat.beq r2 0 then G 101 34 [some (.inr (.inr x0)), some (.inl x1), some (.inl x2), some (.inl x3), some (.inl x4), some (.inr (.inr r2)), none] [] u1.2 else (G 66 0 [some (.inl x2)] [] u1.2).bind fun u3 => (asI u3.1).bind fun i4 => bif decide ((i4 : Int32) = 0) then G 101 34 [some (.inr (.inr x0)), some (.inl x1), some (.inl x2), some (.inl x3), some (.inl x4), some (.inr (.inr r2)), none] [] u3.2 else (G 102 0 [some (.inl x3)] [] u3.2).bind fun u5 => (asI u5.1).bind fun i6 => bif decide ((i6 : Int32) = 0) then G 101 34 [some (.inr (.inr x0)), some (.inl x1), some (.inl x2), some (.inl x3), some (.inl x4), some (.inr (.inr r2)), none] [] u5.2 else (G 102 0 [some (.inl x4)] [] u5.2).bind fun u7 => (asI u7.1).bind fun i8 => bif decide ((i8 : Int32) ≠ 0) then bif Nat.beq (u7.2.1 x0).1 11 then (G 67 0 [some (.inr (.inr x0)), some (.inr (.inr r2)), some (.inl x2), none, none, none] [] u7.2).bind fun u9 => (asI u9.1).bind fun i10 => bif decide (0 ≤ (i10 : Int32)) then bif Nat.beq (u9.2.1 r2).1 7 then (G 103 0 [some (.inr (.inr r2)), some (.inl x2), some (.inl x3), some (.inl x4), none, none, none, none, none, none] [] u9.2).bind fun u11 => (asJ u11.1).bind fun j12 => G 101 67 [some (.inr (.inr x0)), some (.inl x1), some (.inl x2), some (.inl x3), some (.inl x4), some (.inr (.inr r2)), some (.inl i10)] [.inr (.inl j12)] u11.2 else none else G 101 67 [some (.inr (.inr x0)), some (.inl x1), some (.inl x2), some (.inl x3), some (.inl x4), some (.inr (.inr r2)), some (.inl i10)] [.inr (.inl i10.toInt64)] u9.2 else none else G 101 34 [some (.inr (.inr x0)), some (.inl x1), some (.inl x2), some (.inl x3), some (.inl x4), some (.inr (.inr r2)), none] [] u7.2 else none) := by
  refine Eq.trans (e1 hG PT_101 k101_0 _ _ _) ?_
  show G 101 1 [some (.inr (.inr x0)), some (.inl x1), some (.inl x2), some (.inl x3), some (.inl x4), none, none] [.inr (.inr x0)] H = _
  refine Eq.trans (e1 hG PT_101 k101_1 _ _ _) ?_
  show G 101 2 [some (.inr (.inr x0)), some (.inl x1), some (.inl x2), some (.inl x3), some (.inl x4), none, none] [.inl x1, .inr (.inr x0)] H = _
  refine Eq.trans (e1 hG PT_101 k101_2 _ _ _) ?_
  refine bfc ?_ ?_
  · refine bdc fun u1 => ?_
    refine bdc fun r2 => ?_
    show G 101 5 [some (.inr (.inr x0)), some (.inl x1), some (.inl x2), some (.inl x3), some (.inl x4), none, none] [.inr (.inr r2)] u1.2 = _
    refine Eq.trans (e1 hG PT_101 k101_5 _ _ _) ?_
    show G 101 7 [some (.inr (.inr x0)), some (.inl x1), some (.inl x2), some (.inl x3), some (.inl x4), some (.inr (.inr r2)), none] [] u1.2 = _
    refine Eq.trans (e1 hG PT_101 k101_7 _ _ _) ?_
    show G 101 9 [some (.inr (.inr x0)), some (.inl x1), some (.inl x2), some (.inl x3), some (.inl x4), some (.inr (.inr r2)), none] [.inr (.inr r2)] u1.2 = _
    refine Eq.trans (e1 hG PT_101 k101_9 _ _ _) ?_
    refine bfc ?_ ?_
    · rfl
    · show G 101 12 [some (.inr (.inr x0)), some (.inl x1), some (.inl x2), some (.inl x3), some (.inl x4), some (.inr (.inr r2)), none] [] u1.2 = _
      refine Eq.trans (e1 hG PT_101 k101_12 _ _ _) ?_
      show G 101 13 [some (.inr (.inr x0)), some (.inl x1), some (.inl x2), some (.inl x3), some (.inl x4), some (.inr (.inr r2)), none] [.inl x2] u1.2 = _
      refine Eq.trans (e1 hG PT_101 k101_13 _ _ _) ?_
      refine bdc fun u3 => ?_
      refine bdc fun i4 => ?_
      show G 101 16 [some (.inr (.inr x0)), some (.inl x1), some (.inl x2), some (.inl x3), some (.inl x4), some (.inr (.inr r2)), none] [.inl i4] u3.2 = _
      refine Eq.trans (e1 hG PT_101 k101_16 _ _ _) ?_
      refine bfc ?_ ?_
      · rfl
      · show G 101 19 [some (.inr (.inr x0)), some (.inl x1), some (.inl x2), some (.inl x3), some (.inl x4), some (.inr (.inr r2)), none] [] u3.2 = _
        refine Eq.trans (e1 hG PT_101 k101_19 _ _ _) ?_
        show G 101 20 [some (.inr (.inr x0)), some (.inl x1), some (.inl x2), some (.inl x3), some (.inl x4), some (.inr (.inr r2)), none] [.inl x3] u3.2 = _
        refine Eq.trans (e1 hG PT_101 k101_20 _ _ _) ?_
        refine bdc fun u5 => ?_
        refine bdc fun i6 => ?_
        show G 101 23 [some (.inr (.inr x0)), some (.inl x1), some (.inl x2), some (.inl x3), some (.inl x4), some (.inr (.inr r2)), none] [.inl i6] u5.2 = _
        refine Eq.trans (e1 hG PT_101 k101_23 _ _ _) ?_
        refine bfc ?_ ?_
        · rfl
        · show G 101 26 [some (.inr (.inr x0)), some (.inl x1), some (.inl x2), some (.inl x3), some (.inl x4), some (.inr (.inr r2)), none] [] u5.2 = _
          refine Eq.trans (e1 hG PT_101 k101_26 _ _ _) ?_
          show G 101 28 [some (.inr (.inr x0)), some (.inl x1), some (.inl x2), some (.inl x3), some (.inl x4), some (.inr (.inr r2)), none] [.inl x4] u5.2 = _
          refine Eq.trans (e1 hG PT_101 k101_28 _ _ _) ?_
          refine bdc fun u7 => ?_
          refine bdc fun i8 => ?_
          show G 101 31 [some (.inr (.inr x0)), some (.inl x1), some (.inl x2), some (.inl x3), some (.inl x4), some (.inr (.inr r2)), none] [.inl i8] u7.2 = _
          refine Eq.trans (e1 hG PT_101 k101_31 _ _ _) ?_
          refine bfc ?_ ?_
          · show G 101 38 [some (.inr (.inr x0)), some (.inl x1), some (.inl x2), some (.inl x3), some (.inl x4), some (.inr (.inr r2)), none] [] u7.2 = _
            refine Eq.trans (e1 hG PT_101 k101_38 _ _ _) ?_
            show G 101 39 [some (.inr (.inr x0)), some (.inl x1), some (.inl x2), some (.inl x3), some (.inl x4), some (.inr (.inr r2)), none] [.inr (.inr x0)] u7.2 = _
            refine Eq.trans (e1 hG PT_101 k101_39 _ _ _) ?_
            show G 101 41 [some (.inr (.inr x0)), some (.inl x1), some (.inl x2), some (.inl x3), some (.inl x4), some (.inr (.inr r2)), none] [.inr (.inr r2), .inr (.inr x0)] u7.2 = _
            refine Eq.trans (e1 hG PT_101 k101_41 _ _ _) ?_
            show G 101 42 [some (.inr (.inr x0)), some (.inl x1), some (.inl x2), some (.inl x3), some (.inl x4), some (.inr (.inr r2)), none] [.inl x2, .inr (.inr r2), .inr (.inr x0)] u7.2 = _
            refine Eq.trans (e1 hG PT_101 k101_42 _ _ _) ?_
            refine bfc ?_ ?_
            · refine bdc fun u9 => ?_
              refine bdc fun i10 => ?_
              show G 101 45 [some (.inr (.inr x0)), some (.inl x1), some (.inl x2), some (.inl x3), some (.inl x4), some (.inr (.inr r2)), none] [.inl i10] u9.2 = _
              refine Eq.trans (e1 hG PT_101 k101_45 _ _ _) ?_
              show G 101 47 [some (.inr (.inr x0)), some (.inl x1), some (.inl x2), some (.inl x3), some (.inl x4), some (.inr (.inr r2)), some (.inl i10)] [] u9.2 = _
              refine Eq.trans (e1 hG PT_101 k101_47 _ _ _) ?_
              show G 101 49 [some (.inr (.inr x0)), some (.inl x1), some (.inl x2), some (.inl x3), some (.inl x4), some (.inr (.inr r2)), some (.inl i10)] [.inl i10] u9.2 = _
              refine Eq.trans (e1 hG PT_101 k101_49 _ _ _) ?_
              refine bfc ?_ ?_
              · show G 101 58 [some (.inr (.inr x0)), some (.inl x1), some (.inl x2), some (.inl x3), some (.inl x4), some (.inr (.inr r2)), some (.inl i10)] [] u9.2 = _
                refine Eq.trans (e1 hG PT_101 k101_58 _ _ _) ?_
                show G 101 60 [some (.inr (.inr x0)), some (.inl x1), some (.inl x2), some (.inl x3), some (.inl x4), some (.inr (.inr r2)), some (.inl i10)] [.inr (.inr r2)] u9.2 = _
                refine Eq.trans (e1 hG PT_101 k101_60 _ _ _) ?_
                show G 101 61 [some (.inr (.inr x0)), some (.inl x1), some (.inl x2), some (.inl x3), some (.inl x4), some (.inr (.inr r2)), some (.inl i10)] [.inl x2, .inr (.inr r2)] u9.2 = _
                refine Eq.trans (e1 hG PT_101 k101_61 _ _ _) ?_
                show G 101 62 [some (.inr (.inr x0)), some (.inl x1), some (.inl x2), some (.inl x3), some (.inl x4), some (.inr (.inr r2)), some (.inl i10)] [.inl x3, .inl x2, .inr (.inr r2)] u9.2 = _
                refine Eq.trans (e1 hG PT_101 k101_62 _ _ _) ?_
                show G 101 64 [some (.inr (.inr x0)), some (.inl x1), some (.inl x2), some (.inl x3), some (.inl x4), some (.inr (.inr r2)), some (.inl i10)] [.inl x4, .inl x3, .inl x2, .inr (.inr r2)] u9.2 = _
                refine Eq.trans (e1 hG PT_101 k101_64 _ _ _) ?_
                refine bfc ?_ ?_
                · refine bdc fun u11 => ?_
                  refine bdc fun j12 => ?_
                  rfl
                · rfl
              · show G 101 52 [some (.inr (.inr x0)), some (.inl x1), some (.inl x2), some (.inl x3), some (.inl x4), some (.inr (.inr r2)), some (.inl i10)] [] u9.2 = _
                refine Eq.trans (e1 hG PT_101 k101_52 _ _ _) ?_
                show G 101 54 [some (.inr (.inr x0)), some (.inl x1), some (.inl x2), some (.inl x3), some (.inl x4), some (.inr (.inr r2)), some (.inl i10)] [.inl i10] u9.2 = _
                refine Eq.trans (e1 hG PT_101 k101_54 _ _ _) ?_
                show G 101 55 [some (.inr (.inr x0)), some (.inl x1), some (.inl x2), some (.inl x3), some (.inl x4), some (.inr (.inr r2)), some (.inl i10)] [.inr (.inl i10.toInt64)] u9.2 = _
                refine Eq.trans (e1 hG PT_101 k101_55 _ _ _) ?_
                rfl
            · rfl
          · rfl
  · rfl
theorem b101_34 {G : AG} (hG : FIX G) (x0 : Nat) (x1 : Int32) (x2 : Int32) (x3 : Int32) (x4 : Int32) (x5 : Nat) (H : Hp) : G 101 34 [some (.inr (.inr x0)), some (.inl x1), some (.inl x2), some (.inl x3), some (.inl x4), some (.inr (.inr x5)), none] [] H = (some (some (.inr (.inl ((-1000001)))), H)) := by
  refine Eq.trans (e1 hG PT_101 k101_34 _ _ _) ?_
  show G 101 37 [some (.inr (.inr x0)), some (.inl x1), some (.inl x2), some (.inl x3), some (.inl x4), some (.inr (.inr x5)), none] [.inr (.inl (-1000001))] H = _
  exact e1 hG PT_101 k101_37 _ _ _
theorem b101_67 {G : AG} (hG : FIX G) (x0 : Nat) (x1 : Int32) (x2 : Int32) (x3 : Int32) (x4 : Int32) (x5 : Nat) (x6 : Int32) (s0 : Int64) (H : Hp) : G 101 67 [some (.inr (.inr x0)), some (.inl x1), some (.inl x2), some (.inl x3), some (.inl x4), some (.inr (.inr x5)), some (.inl x6)] [.inr (.inl s0)] H = (some (some (.inr (.inl s0)), H)) := by
  exact e1 hG PT_101 k101_67 _ _ _
