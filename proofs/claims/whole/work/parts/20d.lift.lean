-- StepsAhead.isInput(I)Z
theorem PT_102 : PT 102 = pt102 := rfl
theorem k102_0 : lkp pt102 0 = iP 1 (fIld 0) := rfl
theorem k102_1 : lkp pt102 1 = iB 4 14 (b1 (fun x => decide (x < 0))) := rfl
theorem k102_4 : lkp pt102 4 = iP 5 (fIld 0) := rfl
theorem k102_5 : lkp pt102 5 = iP 7 (fK (.inl 20)) := rfl
theorem k102_7 : lkp pt102 7 = iB 10 14 (b2 (fun x y => decide (y < x))) := rfl
theorem k102_10 : lkp pt102 10 = iP 11 (fK (.inl 1)) := rfl
theorem k102_11 : lkp pt102 11 = iP 15 fGo := rfl
theorem k102_14 : lkp pt102 14 = iP 15 (fK (.inl 0)) := rfl
theorem k102_15 : lkp pt102 15 = iRet rZ := rfl
theorem b102_0 {G : AG} (hG : FIX G) (x0 : Int32) (H : Hp) : G 102 0 [some (.inl x0)] [] H = (bif decide ((x0 : Int32) < 0) then G 102 14 [some (.inl x0)] [] H else bif decide ((20 : Int32) < (x0 : Int32)) then G 102 14 [some (.inl x0)] [] H else G 102 15 [some (.inl x0)] [.inl 1] H) := by
  refine Eq.trans (e1 hG PT_102 k102_0 _ _ _) ?_
  show G 102 1 [some (.inl x0)] [.inl x0] H = _
  refine Eq.trans (e1 hG PT_102 k102_1 _ _ _) ?_
  refine bfc ?_ ?_
  · rfl
  · show G 102 4 [some (.inl x0)] [] H = _
    refine Eq.trans (e1 hG PT_102 k102_4 _ _ _) ?_
    show G 102 5 [some (.inl x0)] [.inl x0] H = _
    refine Eq.trans (e1 hG PT_102 k102_5 _ _ _) ?_
    show G 102 7 [some (.inl x0)] [.inl 20, .inl x0] H = _
    refine Eq.trans (e1 hG PT_102 k102_7 _ _ _) ?_
    refine bfc ?_ ?_
    · rfl
    · show G 102 10 [some (.inl x0)] [] H = _
      refine Eq.trans (e1 hG PT_102 k102_10 _ _ _) ?_
      show G 102 11 [some (.inl x0)] [.inl 1] H = _
      refine Eq.trans (e1 hG PT_102 k102_11 _ _ _) ?_
      rfl
theorem b102_14 {G : AG} (hG : FIX G) (x0 : Int32) (H : Hp) : G 102 14 [some (.inl x0)] [] H = (G 102 15 [some (.inl x0)] [.inl 0] H) := by
  refine Eq.trans (e1 hG PT_102 k102_14 _ _ _) ?_
  rfl
theorem b102_15 {G : AG} (hG : FIX G) (x0 : Int32) (s0 : Int32) (H : Hp) : G 102 15 [some (.inl x0)] [.inl s0] H = (retZ s0 H) := by
  exact e1 hG PT_102 k102_15 _ _ _
-- StepsAhead$Routine.wholeValue(III)J
theorem PT_103 : PT 103 = pt103 := rfl
theorem k103_0 : lkp pt103 0 = iP 1 (fK (.inr (.inl 0))) := rfl
theorem k103_1 : lkp pt103 1 = iP 3 (fLst 4) := rfl
theorem k103_3 : lkp pt103 3 = iP 4 (fK (.inl 5)) := rfl
theorem k103_4 : lkp pt103 4 = iP 6 (fIst 6) := rfl
theorem k103_6 : lkp pt103 6 = iP 8 (fIld 6) := rfl
theorem k103_8 : lkp pt103 8 = iB 11 67 (b1 (fun x => decide (x < 0))) := rfl
theorem k103_11 : lkp pt103 11 = iP 12 (fK (.inr (.inl 0))) := rfl
theorem k103_12 : lkp pt103 12 = iP 14 (fLst 7) := rfl
theorem k103_14 : lkp pt103 14 = iP 15 (fK (.inl 5)) := rfl
theorem k103_15 : lkp pt103 15 = iP 17 (fIst 9) := rfl
theorem k103_17 : lkp pt103 17 = iP 19 (fIld 9) := rfl
theorem k103_19 : lkp pt103 19 = iB 22 51 (b1 (fun x => decide (x < 0))) := rfl
theorem k103_22 : lkp pt103 22 = iP 24 (fJld 7) := rfl
theorem k103_24 : lkp pt103 24 = iP 25 (fIld 3) := rfl
theorem k103_25 : lkp pt103 25 = iP 26 fI2l := rfl
theorem k103_26 : lkp pt103 26 = iP 27 (f2J (fun x y => x * y)) := rfl
theorem k103_27 : lkp pt103 27 = iP 28 (fAld 0) := rfl
theorem k103_28 : lkp pt103 28 = iRR 31 (gtR 27) := rfl
theorem k103_31 : lkp pt103 31 = iP 32 (fIld 1) := rfl
theorem k103_32 : lkp pt103 32 = iRR 33 qAR := rfl
theorem k103_33 : lkp pt103 33 = iP 35 (fIld 6) := rfl
theorem k103_35 : lkp pt103 35 = iP 37 (fK (.inl 6)) := rfl
theorem k103_37 : lkp pt103 37 = iP 38 (f2I (fun x y => x * y)) := rfl
theorem k103_38 : lkp pt103 38 = iP 40 (fIld 9) := rfl
theorem k103_40 : lkp pt103 40 = iP 41 (f2I (fun x y => x + y)) := rfl
theorem k103_41 : lkp pt103 41 = iRJ 42 qAJ := rfl
theorem k103_42 : lkp pt103 42 = iP 43 (f2J (fun x y => x + y)) := rfl
theorem k103_43 : lkp pt103 43 = iP 45 (fLst 7) := rfl
theorem k103_45 : lkp pt103 45 = iP 48 (fInc 9 (-1)) := rfl
theorem k103_48 : lkp pt103 48 = iP 17 fGo := rfl
theorem k103_51 : lkp pt103 51 = iP 53 (fJld 4) := rfl
theorem k103_53 : lkp pt103 53 = iP 54 (fIld 2) := rfl
theorem k103_54 : lkp pt103 54 = iP 55 fI2l := rfl
theorem k103_55 : lkp pt103 55 = iP 56 (f2J (fun x y => x * y)) := rfl
theorem k103_56 : lkp pt103 56 = iP 58 (fJld 7) := rfl
theorem k103_58 : lkp pt103 58 = iP 59 (f2J (fun x y => x + y)) := rfl
theorem k103_59 : lkp pt103 59 = iP 61 (fLst 4) := rfl
theorem k103_61 : lkp pt103 61 = iP 64 (fInc 6 (-1)) := rfl
theorem k103_64 : lkp pt103 64 = iP 6 fGo := rfl
theorem k103_67 : lkp pt103 67 = iP 68 (fIld 1) := rfl
theorem k103_68 : lkp pt103 68 = iP 69 (fK (.inl 1)) := rfl
theorem k103_69 : lkp pt103 69 = iB 72 83 (b2 (fun x y => decide (x ≠ y))) := rfl
theorem k103_72 : lkp pt103 72 = iP 74 (fJld 4) := rfl
theorem k103_74 : lkp pt103 74 = iP 77 (fK (.inr (.inl 8640))) := rfl
theorem k103_77 : lkp pt103 77 = iC 80 104 6 2 2 := rfl
theorem k103_80 : lkp pt103 80 = iP 93 fGo := rfl
theorem k103_83 : lkp pt103 83 = iP 85 (fJld 4) := rfl
theorem k103_85 : lkp pt103 85 = iP 86 fLneg := rfl
theorem k103_86 : lkp pt103 86 = iP 89 (fK (.inr (.inl 8640))) := rfl
theorem k103_89 : lkp pt103 89 = iC 92 104 6 2 2 := rfl
theorem k103_92 : lkp pt103 92 = iP 93 fLneg := rfl
theorem k103_93 : lkp pt103 93 = iRet rJ := rfl
theorem b103_0 {G : AG} (hG : FIX G) (x0 : Nat) (x1 : Int32) (x2 : Int32) (x3 : Int32) (H : Hp) : G 103 0 [some (.inr (.inr x0)), some (.inl x1), some (.inl x2), some (.inl x3), none, none, none, none, none, none] [] H = (G 103 6 [some (.inr (.inr x0)), some (.inl x1), some (.inl x2), some (.inl x3), some (.inr (.inl 0)), none, some (.inl 5), none, none, none] [] H) := by
  refine Eq.trans (e1 hG PT_103 k103_0 _ _ _) ?_
  show G 103 1 [some (.inr (.inr x0)), some (.inl x1), some (.inl x2), some (.inl x3), none, none, none, none, none, none] [.inr (.inl 0)] H = _
  refine Eq.trans (e1 hG PT_103 k103_1 _ _ _) ?_
  show G 103 3 [some (.inr (.inr x0)), some (.inl x1), some (.inl x2), some (.inl x3), some (.inr (.inl 0)), none, none, none, none, none] [] H = _
  refine Eq.trans (e1 hG PT_103 k103_3 _ _ _) ?_
  show G 103 4 [some (.inr (.inr x0)), some (.inl x1), some (.inl x2), some (.inl x3), some (.inr (.inl 0)), none, none, none, none, none] [.inl 5] H = _
  refine Eq.trans (e1 hG PT_103 k103_4 _ _ _) ?_
  rfl
theorem b103_6 {G : AG} (hG : FIX G) (x0 : Nat) (x1 : Int32) (x2 : Int32) (x3 : Int32) (x4 : Int64) (x6 : Int32) (o7 : Option AV) (o9 : Option AV) (H : Hp) : G 103 6 [some (.inr (.inr x0)), some (.inl x1), some (.inl x2), some (.inl x3), some (.inr (.inl x4)), none, some (.inl x6), o7, none, o9] [] H = (bif decide ((x6 : Int32) < 0) then bif decide ((x1 : Int32) ≠ (1 : Int32)) then (G 104 0 [some (.inr (.inl ((-x4)))), none, some (.inr (.inl 8640)), none, none, none] [] H).bind fun u1 => (asJ u1.1).bind fun j2 => G 103 93 [some (.inr (.inr x0)), some (.inl x1), some (.inl x2), some (.inl x3), some (.inr (.inl x4)), none, some (.inl x6), o7, none, o9] [.inr (.inl (-j2))] u1.2 else (G 104 0 [some (.inr (.inl x4)), none, some (.inr (.inl 8640)), none, none, none] [] H).bind fun u3 => (asJ u3.1).bind fun j4 => G 103 93 [some (.inr (.inr x0)), some (.inl x1), some (.inl x2), some (.inl x3), some (.inr (.inl x4)), none, some (.inl x6), o7, none, o9] [.inr (.inl j4)] u3.2 else G 103 17 [some (.inr (.inr x0)), some (.inl x1), some (.inl x2), some (.inl x3), some (.inr (.inl x4)), none, some (.inl x6), some (.inr (.inl 0)), none, some (.inl 5)] [] H) := by
  refine Eq.trans (e1 hG PT_103 k103_6 _ _ _) ?_
  show G 103 8 [some (.inr (.inr x0)), some (.inl x1), some (.inl x2), some (.inl x3), some (.inr (.inl x4)), none, some (.inl x6), o7, none, o9] [.inl x6] H = _
  refine Eq.trans (e1 hG PT_103 k103_8 _ _ _) ?_
  refine bfc ?_ ?_
  · show G 103 67 [some (.inr (.inr x0)), some (.inl x1), some (.inl x2), some (.inl x3), some (.inr (.inl x4)), none, some (.inl x6), o7, none, o9] [] H = _
    refine Eq.trans (e1 hG PT_103 k103_67 _ _ _) ?_
    show G 103 68 [some (.inr (.inr x0)), some (.inl x1), some (.inl x2), some (.inl x3), some (.inr (.inl x4)), none, some (.inl x6), o7, none, o9] [.inl x1] H = _
    refine Eq.trans (e1 hG PT_103 k103_68 _ _ _) ?_
    show G 103 69 [some (.inr (.inr x0)), some (.inl x1), some (.inl x2), some (.inl x3), some (.inr (.inl x4)), none, some (.inl x6), o7, none, o9] [.inl 1, .inl x1] H = _
    refine Eq.trans (e1 hG PT_103 k103_69 _ _ _) ?_
    refine bfc ?_ ?_
    · show G 103 83 [some (.inr (.inr x0)), some (.inl x1), some (.inl x2), some (.inl x3), some (.inr (.inl x4)), none, some (.inl x6), o7, none, o9] [] H = _
      refine Eq.trans (e1 hG PT_103 k103_83 _ _ _) ?_
      show G 103 85 [some (.inr (.inr x0)), some (.inl x1), some (.inl x2), some (.inl x3), some (.inr (.inl x4)), none, some (.inl x6), o7, none, o9] [.inr (.inl x4)] H = _
      refine Eq.trans (e1 hG PT_103 k103_85 _ _ _) ?_
      show G 103 86 [some (.inr (.inr x0)), some (.inl x1), some (.inl x2), some (.inl x3), some (.inr (.inl x4)), none, some (.inl x6), o7, none, o9] [.inr (.inl (-x4))] H = _
      refine Eq.trans (e1 hG PT_103 k103_86 _ _ _) ?_
      show G 103 89 [some (.inr (.inr x0)), some (.inl x1), some (.inl x2), some (.inl x3), some (.inr (.inl x4)), none, some (.inl x6), o7, none, o9] [.inr (.inl 8640), .inr (.inl (-x4))] H = _
      refine Eq.trans (e1 hG PT_103 k103_89 _ _ _) ?_
      refine bdc fun u1 => ?_
      refine bdc fun j2 => ?_
      show G 103 92 [some (.inr (.inr x0)), some (.inl x1), some (.inl x2), some (.inl x3), some (.inr (.inl x4)), none, some (.inl x6), o7, none, o9] [.inr (.inl j2)] u1.2 = _
      refine Eq.trans (e1 hG PT_103 k103_92 _ _ _) ?_
      rfl
    · show G 103 72 [some (.inr (.inr x0)), some (.inl x1), some (.inl x2), some (.inl x3), some (.inr (.inl x4)), none, some (.inl x6), o7, none, o9] [] H = _
      refine Eq.trans (e1 hG PT_103 k103_72 _ _ _) ?_
      show G 103 74 [some (.inr (.inr x0)), some (.inl x1), some (.inl x2), some (.inl x3), some (.inr (.inl x4)), none, some (.inl x6), o7, none, o9] [.inr (.inl x4)] H = _
      refine Eq.trans (e1 hG PT_103 k103_74 _ _ _) ?_
      show G 103 77 [some (.inr (.inr x0)), some (.inl x1), some (.inl x2), some (.inl x3), some (.inr (.inl x4)), none, some (.inl x6), o7, none, o9] [.inr (.inl 8640), .inr (.inl x4)] H = _
      refine Eq.trans (e1 hG PT_103 k103_77 _ _ _) ?_
      refine bdc fun u3 => ?_
      refine bdc fun j4 => ?_
      show G 103 80 [some (.inr (.inr x0)), some (.inl x1), some (.inl x2), some (.inl x3), some (.inr (.inl x4)), none, some (.inl x6), o7, none, o9] [.inr (.inl j4)] u3.2 = _
      refine Eq.trans (e1 hG PT_103 k103_80 _ _ _) ?_
      rfl
  · show G 103 11 [some (.inr (.inr x0)), some (.inl x1), some (.inl x2), some (.inl x3), some (.inr (.inl x4)), none, some (.inl x6), o7, none, o9] [] H = _
    refine Eq.trans (e1 hG PT_103 k103_11 _ _ _) ?_
    show G 103 12 [some (.inr (.inr x0)), some (.inl x1), some (.inl x2), some (.inl x3), some (.inr (.inl x4)), none, some (.inl x6), o7, none, o9] [.inr (.inl 0)] H = _
    refine Eq.trans (e1 hG PT_103 k103_12 _ _ _) ?_
    show G 103 14 [some (.inr (.inr x0)), some (.inl x1), some (.inl x2), some (.inl x3), some (.inr (.inl x4)), none, some (.inl x6), some (.inr (.inl 0)), none, o9] [] H = _
    refine Eq.trans (e1 hG PT_103 k103_14 _ _ _) ?_
    show G 103 15 [some (.inr (.inr x0)), some (.inl x1), some (.inl x2), some (.inl x3), some (.inr (.inl x4)), none, some (.inl x6), some (.inr (.inl 0)), none, o9] [.inl 5] H = _
    refine Eq.trans (e1 hG PT_103 k103_15 _ _ _) ?_
    rfl
theorem b103_17 {G : AG} (hG : FIX G) (x0 : Nat) (x1 : Int32) (x2 : Int32) (x3 : Int32) (x4 : Int64) (x6 : Int32) (x7 : Int64) (x9 : Int32) (H : Hp) : G 103 17 [some (.inr (.inr x0)), some (.inl x1), some (.inl x2), some (.inl x3), some (.inr (.inl x4)), none, some (.inl x6), some (.inr (.inl x7)), none, some (.inl x9)] [] H = (bif decide ((x9 : Int32) < 0) then G 103 6 [some (.inr (.inr x0)), some (.inl x1), some (.inl x2), some (.inl x3), some (.inr (.inl ((x4 * x2.toInt64) + x7))), none, some (.inl (x6 + (-1))), some (.inr (.inl x7)), none, some (.inl x9)] [] H else (hgR H x0 27).bind fun r1 => (hAR H r1 x1).bind fun r2 => (hAJ H r2 (((x6 * 6) + x9))).bind fun j3 => G 103 17 [some (.inr (.inr x0)), some (.inl x1), some (.inl x2), some (.inl x3), some (.inr (.inl x4)), none, some (.inl x6), some (.inr (.inl ((x7 * x3.toInt64) + j3))), none, some (.inl (x9 + (-1)))] [] H) := by
  refine Eq.trans (e1 hG PT_103 k103_17 _ _ _) ?_
  show G 103 19 [some (.inr (.inr x0)), some (.inl x1), some (.inl x2), some (.inl x3), some (.inr (.inl x4)), none, some (.inl x6), some (.inr (.inl x7)), none, some (.inl x9)] [.inl x9] H = _
  refine Eq.trans (e1 hG PT_103 k103_19 _ _ _) ?_
  refine bfc ?_ ?_
  · show G 103 51 [some (.inr (.inr x0)), some (.inl x1), some (.inl x2), some (.inl x3), some (.inr (.inl x4)), none, some (.inl x6), some (.inr (.inl x7)), none, some (.inl x9)] [] H = _
    refine Eq.trans (e1 hG PT_103 k103_51 _ _ _) ?_
    show G 103 53 [some (.inr (.inr x0)), some (.inl x1), some (.inl x2), some (.inl x3), some (.inr (.inl x4)), none, some (.inl x6), some (.inr (.inl x7)), none, some (.inl x9)] [.inr (.inl x4)] H = _
    refine Eq.trans (e1 hG PT_103 k103_53 _ _ _) ?_
    show G 103 54 [some (.inr (.inr x0)), some (.inl x1), some (.inl x2), some (.inl x3), some (.inr (.inl x4)), none, some (.inl x6), some (.inr (.inl x7)), none, some (.inl x9)] [.inl x2, .inr (.inl x4)] H = _
    refine Eq.trans (e1 hG PT_103 k103_54 _ _ _) ?_
    show G 103 55 [some (.inr (.inr x0)), some (.inl x1), some (.inl x2), some (.inl x3), some (.inr (.inl x4)), none, some (.inl x6), some (.inr (.inl x7)), none, some (.inl x9)] [.inr (.inl x2.toInt64), .inr (.inl x4)] H = _
    refine Eq.trans (e1 hG PT_103 k103_55 _ _ _) ?_
    show G 103 56 [some (.inr (.inr x0)), some (.inl x1), some (.inl x2), some (.inl x3), some (.inr (.inl x4)), none, some (.inl x6), some (.inr (.inl x7)), none, some (.inl x9)] [.inr (.inl (x4 * x2.toInt64))] H = _
    refine Eq.trans (e1 hG PT_103 k103_56 _ _ _) ?_
    show G 103 58 [some (.inr (.inr x0)), some (.inl x1), some (.inl x2), some (.inl x3), some (.inr (.inl x4)), none, some (.inl x6), some (.inr (.inl x7)), none, some (.inl x9)] [.inr (.inl x7), .inr (.inl (x4 * x2.toInt64))] H = _
    refine Eq.trans (e1 hG PT_103 k103_58 _ _ _) ?_
    show G 103 59 [some (.inr (.inr x0)), some (.inl x1), some (.inl x2), some (.inl x3), some (.inr (.inl x4)), none, some (.inl x6), some (.inr (.inl x7)), none, some (.inl x9)] [.inr (.inl ((x4 * x2.toInt64) + x7))] H = _
    refine Eq.trans (e1 hG PT_103 k103_59 _ _ _) ?_
    show G 103 61 [some (.inr (.inr x0)), some (.inl x1), some (.inl x2), some (.inl x3), some (.inr (.inl ((x4 * x2.toInt64) + x7))), none, some (.inl x6), some (.inr (.inl x7)), none, some (.inl x9)] [] H = _
    refine Eq.trans (e1 hG PT_103 k103_61 _ _ _) ?_
    show G 103 64 [some (.inr (.inr x0)), some (.inl x1), some (.inl x2), some (.inl x3), some (.inr (.inl ((x4 * x2.toInt64) + x7))), none, some (.inl (x6 + (-1))), some (.inr (.inl x7)), none, some (.inl x9)] [] H = _
    refine Eq.trans (e1 hG PT_103 k103_64 _ _ _) ?_
    rfl
  · show G 103 22 [some (.inr (.inr x0)), some (.inl x1), some (.inl x2), some (.inl x3), some (.inr (.inl x4)), none, some (.inl x6), some (.inr (.inl x7)), none, some (.inl x9)] [] H = _
    refine Eq.trans (e1 hG PT_103 k103_22 _ _ _) ?_
    show G 103 24 [some (.inr (.inr x0)), some (.inl x1), some (.inl x2), some (.inl x3), some (.inr (.inl x4)), none, some (.inl x6), some (.inr (.inl x7)), none, some (.inl x9)] [.inr (.inl x7)] H = _
    refine Eq.trans (e1 hG PT_103 k103_24 _ _ _) ?_
    show G 103 25 [some (.inr (.inr x0)), some (.inl x1), some (.inl x2), some (.inl x3), some (.inr (.inl x4)), none, some (.inl x6), some (.inr (.inl x7)), none, some (.inl x9)] [.inl x3, .inr (.inl x7)] H = _
    refine Eq.trans (e1 hG PT_103 k103_25 _ _ _) ?_
    show G 103 26 [some (.inr (.inr x0)), some (.inl x1), some (.inl x2), some (.inl x3), some (.inr (.inl x4)), none, some (.inl x6), some (.inr (.inl x7)), none, some (.inl x9)] [.inr (.inl x3.toInt64), .inr (.inl x7)] H = _
    refine Eq.trans (e1 hG PT_103 k103_26 _ _ _) ?_
    show G 103 27 [some (.inr (.inr x0)), some (.inl x1), some (.inl x2), some (.inl x3), some (.inr (.inl x4)), none, some (.inl x6), some (.inr (.inl x7)), none, some (.inl x9)] [.inr (.inl (x7 * x3.toInt64))] H = _
    refine Eq.trans (e1 hG PT_103 k103_27 _ _ _) ?_
    show G 103 28 [some (.inr (.inr x0)), some (.inl x1), some (.inl x2), some (.inl x3), some (.inr (.inl x4)), none, some (.inl x6), some (.inr (.inl x7)), none, some (.inl x9)] [.inr (.inr x0), .inr (.inl (x7 * x3.toInt64))] H = _
    refine Eq.trans (e1 hG PT_103 k103_28 _ _ _) ?_
    refine bdc fun r1 => ?_
    show G 103 31 [some (.inr (.inr x0)), some (.inl x1), some (.inl x2), some (.inl x3), some (.inr (.inl x4)), none, some (.inl x6), some (.inr (.inl x7)), none, some (.inl x9)] [.inr (.inr r1), .inr (.inl (x7 * x3.toInt64))] H = _
    refine Eq.trans (e1 hG PT_103 k103_31 _ _ _) ?_
    show G 103 32 [some (.inr (.inr x0)), some (.inl x1), some (.inl x2), some (.inl x3), some (.inr (.inl x4)), none, some (.inl x6), some (.inr (.inl x7)), none, some (.inl x9)] [.inl x1, .inr (.inr r1), .inr (.inl (x7 * x3.toInt64))] H = _
    refine Eq.trans (e1 hG PT_103 k103_32 _ _ _) ?_
    refine bdc fun r2 => ?_
    show G 103 33 [some (.inr (.inr x0)), some (.inl x1), some (.inl x2), some (.inl x3), some (.inr (.inl x4)), none, some (.inl x6), some (.inr (.inl x7)), none, some (.inl x9)] [.inr (.inr r2), .inr (.inl (x7 * x3.toInt64))] H = _
    refine Eq.trans (e1 hG PT_103 k103_33 _ _ _) ?_
    show G 103 35 [some (.inr (.inr x0)), some (.inl x1), some (.inl x2), some (.inl x3), some (.inr (.inl x4)), none, some (.inl x6), some (.inr (.inl x7)), none, some (.inl x9)] [.inl x6, .inr (.inr r2), .inr (.inl (x7 * x3.toInt64))] H = _
    refine Eq.trans (e1 hG PT_103 k103_35 _ _ _) ?_
    show G 103 37 [some (.inr (.inr x0)), some (.inl x1), some (.inl x2), some (.inl x3), some (.inr (.inl x4)), none, some (.inl x6), some (.inr (.inl x7)), none, some (.inl x9)] [.inl 6, .inl x6, .inr (.inr r2), .inr (.inl (x7 * x3.toInt64))] H = _
    refine Eq.trans (e1 hG PT_103 k103_37 _ _ _) ?_
    show G 103 38 [some (.inr (.inr x0)), some (.inl x1), some (.inl x2), some (.inl x3), some (.inr (.inl x4)), none, some (.inl x6), some (.inr (.inl x7)), none, some (.inl x9)] [.inl (x6 * 6), .inr (.inr r2), .inr (.inl (x7 * x3.toInt64))] H = _
    refine Eq.trans (e1 hG PT_103 k103_38 _ _ _) ?_
    show G 103 40 [some (.inr (.inr x0)), some (.inl x1), some (.inl x2), some (.inl x3), some (.inr (.inl x4)), none, some (.inl x6), some (.inr (.inl x7)), none, some (.inl x9)] [.inl x9, .inl (x6 * 6), .inr (.inr r2), .inr (.inl (x7 * x3.toInt64))] H = _
    refine Eq.trans (e1 hG PT_103 k103_40 _ _ _) ?_
    show G 103 41 [some (.inr (.inr x0)), some (.inl x1), some (.inl x2), some (.inl x3), some (.inr (.inl x4)), none, some (.inl x6), some (.inr (.inl x7)), none, some (.inl x9)] [.inl ((x6 * 6) + x9), .inr (.inr r2), .inr (.inl (x7 * x3.toInt64))] H = _
    refine Eq.trans (e1 hG PT_103 k103_41 _ _ _) ?_
    refine bdc fun j3 => ?_
    show G 103 42 [some (.inr (.inr x0)), some (.inl x1), some (.inl x2), some (.inl x3), some (.inr (.inl x4)), none, some (.inl x6), some (.inr (.inl x7)), none, some (.inl x9)] [.inr (.inl j3), .inr (.inl (x7 * x3.toInt64))] H = _
    refine Eq.trans (e1 hG PT_103 k103_42 _ _ _) ?_
    show G 103 43 [some (.inr (.inr x0)), some (.inl x1), some (.inl x2), some (.inl x3), some (.inr (.inl x4)), none, some (.inl x6), some (.inr (.inl x7)), none, some (.inl x9)] [.inr (.inl ((x7 * x3.toInt64) + j3))] H = _
    refine Eq.trans (e1 hG PT_103 k103_43 _ _ _) ?_
    show G 103 45 [some (.inr (.inr x0)), some (.inl x1), some (.inl x2), some (.inl x3), some (.inr (.inl x4)), none, some (.inl x6), some (.inr (.inl ((x7 * x3.toInt64) + j3))), none, some (.inl x9)] [] H = _
    refine Eq.trans (e1 hG PT_103 k103_45 _ _ _) ?_
    show G 103 48 [some (.inr (.inr x0)), some (.inl x1), some (.inl x2), some (.inl x3), some (.inr (.inl x4)), none, some (.inl x6), some (.inr (.inl ((x7 * x3.toInt64) + j3))), none, some (.inl (x9 + (-1)))] [] H = _
    refine Eq.trans (e1 hG PT_103 k103_48 _ _ _) ?_
    rfl
theorem b103_93 {G : AG} (hG : FIX G) (x0 : Nat) (x1 : Int32) (x2 : Int32) (x3 : Int32) (x4 : Int64) (x6 : Int32) (o7 : Option AV) (o9 : Option AV) (s0 : Int64) (H : Hp) : G 103 93 [some (.inr (.inr x0)), some (.inl x1), some (.inl x2), some (.inl x3), some (.inr (.inl x4)), none, some (.inl x6), o7, none, o9] [.inr (.inl s0)] H = (some (some (.inr (.inl s0)), H)) := by
  exact e1 hG PT_103 k103_93 _ _ _
-- java/lang/Math.floorDiv(JJ)J
theorem PT_104 : PT 104 = pt104 := rfl
theorem k104_0 : lkp pt104 0 = iP 1 (fJld 0) := rfl
theorem k104_1 : lkp pt104 1 = iP 2 (fJld 2) := rfl
theorem k104_2 : lkp pt104 2 = iRJ 3 (q2J (fun x y => x / y)) := rfl
theorem k104_3 : lkp pt104 3 = iP 5 (fLst 4) := rfl
theorem k104_5 : lkp pt104 5 = iP 6 (fJld 0) := rfl
theorem k104_6 : lkp pt104 6 = iP 7 (fJld 2) := rfl
theorem k104_7 : lkp pt104 7 = iP 8 (f2J (fun x y => x ^^^ y)) := rfl
theorem k104_8 : lkp pt104 8 = iP 9 (fK (.inr (.inl 0))) := rfl
theorem k104_9 : lkp pt104 9 = iP 10 fLcmp := rfl
theorem k104_10 : lkp pt104 10 = iB 13 27 (b1 (fun x => decide (0 ≤ x))) := rfl
theorem k104_13 : lkp pt104 13 = iP 15 (fJld 4) := rfl
theorem k104_15 : lkp pt104 15 = iP 16 (fJld 2) := rfl
theorem k104_16 : lkp pt104 16 = iP 17 (f2J (fun x y => x * y)) := rfl
theorem k104_17 : lkp pt104 17 = iP 18 (fJld 0) := rfl
theorem k104_18 : lkp pt104 18 = iP 19 fLcmp := rfl
theorem k104_19 : lkp pt104 19 = iB 22 27 (b1 (fun x => decide (x = 0))) := rfl
theorem k104_22 : lkp pt104 22 = iP 24 (fJld 4) := rfl
theorem k104_24 : lkp pt104 24 = iP 25 (fK (.inr (.inl 1))) := rfl
theorem k104_25 : lkp pt104 25 = iP 26 (f2J (fun x y => x - y)) := rfl
theorem k104_26 : lkp pt104 26 = iRet rJ := rfl
theorem k104_27 : lkp pt104 27 = iP 29 (fJld 4) := rfl
theorem k104_29 : lkp pt104 29 = iRet rJ := rfl
theorem b104_0 {G : AG} (hG : FIX G) (x0 : Int64) (x2 : Int64) (H : Hp) : G 104 0 [some (.inr (.inl x0)), none, some (.inr (.inl x2)), none, none, none] [] H = (((if (x2 : Int64) = 0 then none else some (x0 / x2))).bind fun j1 => bif decide (0 ≤ ((lg_cmp ((x0 ^^^ x2)) 0) : Int32)) then G 104 27 [some (.inr (.inl x0)), none, some (.inr (.inl x2)), none, some (.inr (.inl j1)), none] [] H else bif decide (((lg_cmp ((j1 * x2)) x0) : Int32) = 0) then G 104 27 [some (.inr (.inl x0)), none, some (.inr (.inl x2)), none, some (.inr (.inl j1)), none] [] H else some (some (.inr (.inl ((j1 - 1)))), H)) := by
  refine Eq.trans (e1 hG PT_104 k104_0 _ _ _) ?_
  show G 104 1 [some (.inr (.inl x0)), none, some (.inr (.inl x2)), none, none, none] [.inr (.inl x0)] H = _
  refine Eq.trans (e1 hG PT_104 k104_1 _ _ _) ?_
  show G 104 2 [some (.inr (.inl x0)), none, some (.inr (.inl x2)), none, none, none] [.inr (.inl x2), .inr (.inl x0)] H = _
  refine Eq.trans (e1 hG PT_104 k104_2 _ _ _) ?_
  show ((if (x2 : Int64) = 0 then none else some (x0 / x2))).bind (fun j1 => G 104 3 [some (.inr (.inl x0)), none, some (.inr (.inl x2)), none, none, none] [.inr (.inl j1)] H) = _
  refine bdc (q := (if (x2 : Int64) = 0 then none else some (x0 / x2))) fun j1 => ?_
  show G 104 3 [some (.inr (.inl x0)), none, some (.inr (.inl x2)), none, none, none] [.inr (.inl j1)] H = _
  refine Eq.trans (e1 hG PT_104 k104_3 _ _ _) ?_
  show G 104 5 [some (.inr (.inl x0)), none, some (.inr (.inl x2)), none, some (.inr (.inl j1)), none] [] H = _
  refine Eq.trans (e1 hG PT_104 k104_5 _ _ _) ?_
  show G 104 6 [some (.inr (.inl x0)), none, some (.inr (.inl x2)), none, some (.inr (.inl j1)), none] [.inr (.inl x0)] H = _
  refine Eq.trans (e1 hG PT_104 k104_6 _ _ _) ?_
  show G 104 7 [some (.inr (.inl x0)), none, some (.inr (.inl x2)), none, some (.inr (.inl j1)), none] [.inr (.inl x2), .inr (.inl x0)] H = _
  refine Eq.trans (e1 hG PT_104 k104_7 _ _ _) ?_
  show G 104 8 [some (.inr (.inl x0)), none, some (.inr (.inl x2)), none, some (.inr (.inl j1)), none] [.inr (.inl (x0 ^^^ x2))] H = _
  refine Eq.trans (e1 hG PT_104 k104_8 _ _ _) ?_
  show G 104 9 [some (.inr (.inl x0)), none, some (.inr (.inl x2)), none, some (.inr (.inl j1)), none] [.inr (.inl 0), .inr (.inl (x0 ^^^ x2))] H = _
  refine Eq.trans (e1 hG PT_104 k104_9 _ _ _) ?_
  show G 104 10 [some (.inr (.inl x0)), none, some (.inr (.inl x2)), none, some (.inr (.inl j1)), none] [.inl (lg_cmp ((x0 ^^^ x2)) 0)] H = _
  refine Eq.trans (e1 hG PT_104 k104_10 _ _ _) ?_
  refine bfc ?_ ?_
  · rfl
  · show G 104 13 [some (.inr (.inl x0)), none, some (.inr (.inl x2)), none, some (.inr (.inl j1)), none] [] H = _
    refine Eq.trans (e1 hG PT_104 k104_13 _ _ _) ?_
    show G 104 15 [some (.inr (.inl x0)), none, some (.inr (.inl x2)), none, some (.inr (.inl j1)), none] [.inr (.inl j1)] H = _
    refine Eq.trans (e1 hG PT_104 k104_15 _ _ _) ?_
    show G 104 16 [some (.inr (.inl x0)), none, some (.inr (.inl x2)), none, some (.inr (.inl j1)), none] [.inr (.inl x2), .inr (.inl j1)] H = _
    refine Eq.trans (e1 hG PT_104 k104_16 _ _ _) ?_
    show G 104 17 [some (.inr (.inl x0)), none, some (.inr (.inl x2)), none, some (.inr (.inl j1)), none] [.inr (.inl (j1 * x2))] H = _
    refine Eq.trans (e1 hG PT_104 k104_17 _ _ _) ?_
    show G 104 18 [some (.inr (.inl x0)), none, some (.inr (.inl x2)), none, some (.inr (.inl j1)), none] [.inr (.inl x0), .inr (.inl (j1 * x2))] H = _
    refine Eq.trans (e1 hG PT_104 k104_18 _ _ _) ?_
    show G 104 19 [some (.inr (.inl x0)), none, some (.inr (.inl x2)), none, some (.inr (.inl j1)), none] [.inl (lg_cmp ((j1 * x2)) x0)] H = _
    refine Eq.trans (e1 hG PT_104 k104_19 _ _ _) ?_
    refine bfc ?_ ?_
    · rfl
    · show G 104 22 [some (.inr (.inl x0)), none, some (.inr (.inl x2)), none, some (.inr (.inl j1)), none] [] H = _
      refine Eq.trans (e1 hG PT_104 k104_22 _ _ _) ?_
      show G 104 24 [some (.inr (.inl x0)), none, some (.inr (.inl x2)), none, some (.inr (.inl j1)), none] [.inr (.inl j1)] H = _
      refine Eq.trans (e1 hG PT_104 k104_24 _ _ _) ?_
      show G 104 25 [some (.inr (.inl x0)), none, some (.inr (.inl x2)), none, some (.inr (.inl j1)), none] [.inr (.inl 1), .inr (.inl j1)] H = _
      refine Eq.trans (e1 hG PT_104 k104_25 _ _ _) ?_
      show G 104 26 [some (.inr (.inl x0)), none, some (.inr (.inl x2)), none, some (.inr (.inl j1)), none] [.inr (.inl (j1 - 1))] H = _
      exact e1 hG PT_104 k104_26 _ _ _
theorem b104_27 {G : AG} (hG : FIX G) (x0 : Int64) (x2 : Int64) (x4 : Int64) (H : Hp) : G 104 27 [some (.inr (.inl x0)), none, some (.inr (.inl x2)), none, some (.inr (.inl x4)), none] [] H = (some (some (.inr (.inl x4)), H)) := by
  refine Eq.trans (e1 hG PT_104 k104_27 _ _ _) ?_
  show G 104 29 [some (.inr (.inl x0)), none, some (.inr (.inl x2)), none, some (.inr (.inl x4)), none] [.inr (.inl x4)] H = _
  exact e1 hG PT_104 k104_29 _ _ _
-- StepsAhead.sure(I)I
theorem PT_105 : PT 105 = pt105 := rfl
theorem k105_0 : lkp pt105 0 = iP 1 (fAld 0) := rfl
theorem k105_1 : lkp pt105 1 = iP 2 (fIld 1) := rfl
theorem k105_2 : lkp pt105 2 = iCK 5 11 15 2 2 3 := rfl
theorem k105_5 : lkp pt105 5 = iP 6 (fAst 2) := rfl
theorem k105_6 : lkp pt105 6 = iP 7 (fAld 2) := rfl
theorem k105_7 : lkp pt105 7 = iB 10 13 bNN := rfl
theorem k105_10 : lkp pt105 10 = iP 12 (fK (.inl (-1000001))) := rfl
theorem k105_12 : lkp pt105 12 = iRet rI := rfl
theorem k105_13 : lkp pt105 13 = iP 14 (fAld 0) := rfl
theorem k105_14 : lkp pt105 14 = iP 15 (fAld 2) := rfl
theorem k105_15 : lkp pt105 15 = iP 16 (fK (.inl 0)) := rfl
theorem k105_16 : lkp pt105 16 = iCK 19 11 67 6 3 1 := rfl
theorem k105_19 : lkp pt105 19 = iP 20 (fAld 0) := rfl
theorem k105_20 : lkp pt105 20 = iP 21 (fAld 2) := rfl
theorem k105_21 : lkp pt105 21 = iP 22 (fK (.inl 1)) := rfl
theorem k105_22 : lkp pt105 22 = iCK 25 11 67 6 3 1 := rfl
theorem k105_25 : lkp pt105 25 = iP 28 (fM2 (fun x y => if y < x then y else x)) := rfl
theorem k105_28 : lkp pt105 28 = iP 29 (fIst 3) := rfl
theorem k105_29 : lkp pt105 29 = iP 30 (fIld 3) := rfl
theorem k105_30 : lkp pt105 30 = iB 33 35 (b1 (fun x => decide (0 ≤ x))) := rfl
theorem k105_33 : lkp pt105 33 = iP 34 (fIld 3) := rfl
theorem k105_34 : lkp pt105 34 = iRet rI := rfl
theorem k105_35 : lkp pt105 35 = iP 36 (fAld 2) := rfl
theorem k105_36 : lkp pt105 36 = iCK 39 7 106 2 1 1 := rfl
theorem k105_39 : lkp pt105 39 = iB 42 46 (b1 (fun x => decide (x = 0))) := rfl
theorem k105_42 : lkp pt105 42 = iP 43 (fK (.inl 1)) := rfl
theorem k105_43 : lkp pt105 43 = iP 47 fGo := rfl
theorem k105_46 : lkp pt105 46 = iP 47 (fK (.inl 0)) := rfl
theorem k105_47 : lkp pt105 47 = iRet rI := rfl
theorem b105_0 {G : AG} (hG : FIX G) (x0 : Nat) (x1 : Int32) (H : Hp) : G 105 0 [some (.inr (.inr x0)), some (.inl x1), none, none] [] H = (bif Nat.beq (H.1 x0).1 11 then (G 15 0 [some (.inr (.inr x0)), some (.inl x1)] [] H).bind fun u1 => (asR u1.1).bind fun r2 => bif !(Nat.beq r2 0) then bif Nat.beq (u1.2.1 x0).1 11 then (G 67 0 [some (.inr (.inr x0)), some (.inr (.inr r2)), some (.inl 0), none, none, none] [] u1.2).bind fun u3 => (asI u3.1).bind fun i4 => bif Nat.beq (u3.2.1 x0).1 11 then (G 67 0 [some (.inr (.inr x0)), some (.inr (.inr r2)), some (.inl 1), none, none, none] [] u3.2).bind fun u5 => (asI u5.1).bind fun i6 => bif decide (0 ≤ ((if i6 < i4 then i6 else i4) : Int32)) then bif Nat.beq (u5.2.1 r2).1 7 then (G 106 0 [some (.inr (.inr r2)), none] [] u5.2).bind fun u7 => (asI u7.1).bind fun i8 => bif decide ((i8 : Int32) = 0) then G 105 47 [some (.inr (.inr x0)), some (.inl x1), some (.inr (.inr r2)), some (.inl (if i6 < i4 then i6 else i4))] [.inl 0] u7.2 else G 105 47 [some (.inr (.inr x0)), some (.inl x1), some (.inr (.inr r2)), some (.inl (if i6 < i4 then i6 else i4))] [.inl 1] u7.2 else none else some (some (.inl ((if i6 < i4 then i6 else i4))), u5.2) else none else none else some (some (.inl ((-1000001))), u1.2) else none) := by
  refine Eq.trans (e1 hG PT_105 k105_0 _ _ _) ?_
  show G 105 1 [some (.inr (.inr x0)), some (.inl x1), none, none] [.inr (.inr x0)] H = _
  refine Eq.trans (e1 hG PT_105 k105_1 _ _ _) ?_
  show G 105 2 [some (.inr (.inr x0)), some (.inl x1), none, none] [.inl x1, .inr (.inr x0)] H = _
  refine Eq.trans (e1 hG PT_105 k105_2 _ _ _) ?_
  refine bfc ?_ ?_
  · refine bdc fun u1 => ?_
    refine bdc fun r2 => ?_
    show G 105 5 [some (.inr (.inr x0)), some (.inl x1), none, none] [.inr (.inr r2)] u1.2 = _
    refine Eq.trans (e1 hG PT_105 k105_5 _ _ _) ?_
    show G 105 6 [some (.inr (.inr x0)), some (.inl x1), some (.inr (.inr r2)), none] [] u1.2 = _
    refine Eq.trans (e1 hG PT_105 k105_6 _ _ _) ?_
    show G 105 7 [some (.inr (.inr x0)), some (.inl x1), some (.inr (.inr r2)), none] [.inr (.inr r2)] u1.2 = _
    refine Eq.trans (e1 hG PT_105 k105_7 _ _ _) ?_
    refine bfc ?_ ?_
    · show G 105 13 [some (.inr (.inr x0)), some (.inl x1), some (.inr (.inr r2)), none] [] u1.2 = _
      refine Eq.trans (e1 hG PT_105 k105_13 _ _ _) ?_
      show G 105 14 [some (.inr (.inr x0)), some (.inl x1), some (.inr (.inr r2)), none] [.inr (.inr x0)] u1.2 = _
      refine Eq.trans (e1 hG PT_105 k105_14 _ _ _) ?_
      show G 105 15 [some (.inr (.inr x0)), some (.inl x1), some (.inr (.inr r2)), none] [.inr (.inr r2), .inr (.inr x0)] u1.2 = _
      refine Eq.trans (e1 hG PT_105 k105_15 _ _ _) ?_
      show G 105 16 [some (.inr (.inr x0)), some (.inl x1), some (.inr (.inr r2)), none] [.inl 0, .inr (.inr r2), .inr (.inr x0)] u1.2 = _
      refine Eq.trans (e1 hG PT_105 k105_16 _ _ _) ?_
      refine bfc ?_ ?_
      · refine bdc fun u3 => ?_
        refine bdc fun i4 => ?_
        show G 105 19 [some (.inr (.inr x0)), some (.inl x1), some (.inr (.inr r2)), none] [.inl i4] u3.2 = _
        refine Eq.trans (e1 hG PT_105 k105_19 _ _ _) ?_
        show G 105 20 [some (.inr (.inr x0)), some (.inl x1), some (.inr (.inr r2)), none] [.inr (.inr x0), .inl i4] u3.2 = _
        refine Eq.trans (e1 hG PT_105 k105_20 _ _ _) ?_
        show G 105 21 [some (.inr (.inr x0)), some (.inl x1), some (.inr (.inr r2)), none] [.inr (.inr r2), .inr (.inr x0), .inl i4] u3.2 = _
        refine Eq.trans (e1 hG PT_105 k105_21 _ _ _) ?_
        show G 105 22 [some (.inr (.inr x0)), some (.inl x1), some (.inr (.inr r2)), none] [.inl 1, .inr (.inr r2), .inr (.inr x0), .inl i4] u3.2 = _
        refine Eq.trans (e1 hG PT_105 k105_22 _ _ _) ?_
        refine bfc ?_ ?_
        · refine bdc fun u5 => ?_
          refine bdc fun i6 => ?_
          show G 105 25 [some (.inr (.inr x0)), some (.inl x1), some (.inr (.inr r2)), none] [.inl i6, .inl i4] u5.2 = _
          refine Eq.trans (e1 hG PT_105 k105_25 _ _ _) ?_
          show G 105 28 [some (.inr (.inr x0)), some (.inl x1), some (.inr (.inr r2)), none] [.inl (if i6 < i4 then i6 else i4)] u5.2 = _
          refine Eq.trans (e1 hG PT_105 k105_28 _ _ _) ?_
          show G 105 29 [some (.inr (.inr x0)), some (.inl x1), some (.inr (.inr r2)), some (.inl (if i6 < i4 then i6 else i4))] [] u5.2 = _
          refine Eq.trans (e1 hG PT_105 k105_29 _ _ _) ?_
          show G 105 30 [some (.inr (.inr x0)), some (.inl x1), some (.inr (.inr r2)), some (.inl (if i6 < i4 then i6 else i4))] [.inl (if i6 < i4 then i6 else i4)] u5.2 = _
          refine Eq.trans (e1 hG PT_105 k105_30 _ _ _) ?_
          refine bfc ?_ ?_
          · show G 105 35 [some (.inr (.inr x0)), some (.inl x1), some (.inr (.inr r2)), some (.inl (if i6 < i4 then i6 else i4))] [] u5.2 = _
            refine Eq.trans (e1 hG PT_105 k105_35 _ _ _) ?_
            show G 105 36 [some (.inr (.inr x0)), some (.inl x1), some (.inr (.inr r2)), some (.inl (if i6 < i4 then i6 else i4))] [.inr (.inr r2)] u5.2 = _
            refine Eq.trans (e1 hG PT_105 k105_36 _ _ _) ?_
            refine bfc ?_ ?_
            · refine bdc fun u7 => ?_
              refine bdc fun i8 => ?_
              show G 105 39 [some (.inr (.inr x0)), some (.inl x1), some (.inr (.inr r2)), some (.inl (if i6 < i4 then i6 else i4))] [.inl i8] u7.2 = _
              refine Eq.trans (e1 hG PT_105 k105_39 _ _ _) ?_
              refine bfc ?_ ?_
              · show G 105 46 [some (.inr (.inr x0)), some (.inl x1), some (.inr (.inr r2)), some (.inl (if i6 < i4 then i6 else i4))] [] u7.2 = _
                refine Eq.trans (e1 hG PT_105 k105_46 _ _ _) ?_
                rfl
              · show G 105 42 [some (.inr (.inr x0)), some (.inl x1), some (.inr (.inr r2)), some (.inl (if i6 < i4 then i6 else i4))] [] u7.2 = _
                refine Eq.trans (e1 hG PT_105 k105_42 _ _ _) ?_
                show G 105 43 [some (.inr (.inr x0)), some (.inl x1), some (.inr (.inr r2)), some (.inl (if i6 < i4 then i6 else i4))] [.inl 1] u7.2 = _
                refine Eq.trans (e1 hG PT_105 k105_43 _ _ _) ?_
                rfl
            · rfl
          · show G 105 33 [some (.inr (.inr x0)), some (.inl x1), some (.inr (.inr r2)), some (.inl (if i6 < i4 then i6 else i4))] [] u5.2 = _
            refine Eq.trans (e1 hG PT_105 k105_33 _ _ _) ?_
            show G 105 34 [some (.inr (.inr x0)), some (.inl x1), some (.inr (.inr r2)), some (.inl (if i6 < i4 then i6 else i4))] [.inl (if i6 < i4 then i6 else i4)] u5.2 = _
            exact e1 hG PT_105 k105_34 _ _ _
        · rfl
      · rfl
    · show G 105 10 [some (.inr (.inr x0)), some (.inl x1), some (.inr (.inr r2)), none] [] u1.2 = _
      refine Eq.trans (e1 hG PT_105 k105_10 _ _ _) ?_
      show G 105 12 [some (.inr (.inr x0)), some (.inl x1), some (.inr (.inr r2)), none] [.inl (-1000001)] u1.2 = _
      exact e1 hG PT_105 k105_12 _ _ _
  · rfl
theorem b105_47 {G : AG} (hG : FIX G) (x0 : Nat) (x1 : Int32) (x2 : Nat) (x3 : Int32) (s0 : Int32) (H : Hp) : G 105 47 [some (.inr (.inr x0)), some (.inl x1), some (.inr (.inr x2)), some (.inl x3)] [.inl s0] H = (some (some (.inl s0), H)) := by
  exact e1 hG PT_105 k105_47 _ _ _
-- StepsAhead$Routine.hasSameSides()Z
theorem PT_106 : PT 106 = pt106 := rfl
theorem k106_0 : lkp pt106 0 = iP 1 (fK (.inl 0)) := rfl
theorem k106_1 : lkp pt106 1 = iP 2 (fIst 1) := rfl
theorem k106_2 : lkp pt106 2 = iP 3 (fIld 1) := rfl
theorem k106_3 : lkp pt106 3 = iP 5 (fK (.inl 36)) := rfl
theorem k106_5 : lkp pt106 5 = iB 8 36 (b2 (fun x y => decide (y ≤ x))) := rfl
theorem k106_8 : lkp pt106 8 = iP 9 (fAld 0) := rfl
theorem k106_9 : lkp pt106 9 = iRR 12 (gtR 27) := rfl
theorem k106_12 : lkp pt106 12 = iP 13 (fK (.inl 0)) := rfl
theorem k106_13 : lkp pt106 13 = iRR 14 qAR := rfl
theorem k106_14 : lkp pt106 14 = iP 15 (fIld 1) := rfl
theorem k106_15 : lkp pt106 15 = iRJ 16 qAJ := rfl
theorem k106_16 : lkp pt106 16 = iP 17 (fAld 0) := rfl
theorem k106_17 : lkp pt106 17 = iRR 20 (gtR 27) := rfl
theorem k106_20 : lkp pt106 20 = iP 21 (fK (.inl 1)) := rfl
theorem k106_21 : lkp pt106 21 = iRR 22 qAR := rfl
theorem k106_22 : lkp pt106 22 = iP 23 (fIld 1) := rfl
theorem k106_23 : lkp pt106 23 = iRJ 24 qAJ := rfl
theorem k106_24 : lkp pt106 24 = iP 25 fLcmp := rfl
theorem k106_25 : lkp pt106 25 = iB 28 30 (b1 (fun x => decide (x = 0))) := rfl
theorem k106_28 : lkp pt106 28 = iP 29 (fK (.inl 0)) := rfl
theorem k106_29 : lkp pt106 29 = iRet rZ := rfl
theorem k106_30 : lkp pt106 30 = iP 33 (fInc 1 1) := rfl
theorem k106_33 : lkp pt106 33 = iP 2 fGo := rfl
theorem k106_36 : lkp pt106 36 = iP 37 (fK (.inl 1)) := rfl
theorem k106_37 : lkp pt106 37 = iRet rZ := rfl
theorem b106_0 {G : AG} (hG : FIX G) (x0 : Nat) (H : Hp) : G 106 0 [some (.inr (.inr x0)), none] [] H = (G 106 2 [some (.inr (.inr x0)), some (.inl 0)] [] H) := by
  refine Eq.trans (e1 hG PT_106 k106_0 _ _ _) ?_
  show G 106 1 [some (.inr (.inr x0)), none] [.inl 0] H = _
  refine Eq.trans (e1 hG PT_106 k106_1 _ _ _) ?_
  rfl
theorem b106_2 {G : AG} (hG : FIX G) (x0 : Nat) (x1 : Int32) (H : Hp) : G 106 2 [some (.inr (.inr x0)), some (.inl x1)] [] H = (bif decide ((36 : Int32) ≤ (x1 : Int32)) then retZ 1 H else (hgR H x0 27).bind fun r1 => (hAR H r1 0).bind fun r2 => (hAJ H r2 x1).bind fun j3 => (hgR H x0 27).bind fun r4 => (hAR H r4 1).bind fun r5 => (hAJ H r5 x1).bind fun j6 => bif decide (((lg_cmp j3 j6) : Int32) = 0) then G 106 2 [some (.inr (.inr x0)), some (.inl (x1 + 1))] [] H else retZ 0 H) := by
  refine Eq.trans (e1 hG PT_106 k106_2 _ _ _) ?_
  show G 106 3 [some (.inr (.inr x0)), some (.inl x1)] [.inl x1] H = _
  refine Eq.trans (e1 hG PT_106 k106_3 _ _ _) ?_
  show G 106 5 [some (.inr (.inr x0)), some (.inl x1)] [.inl 36, .inl x1] H = _
  refine Eq.trans (e1 hG PT_106 k106_5 _ _ _) ?_
  refine bfc ?_ ?_
  · show G 106 36 [some (.inr (.inr x0)), some (.inl x1)] [] H = _
    refine Eq.trans (e1 hG PT_106 k106_36 _ _ _) ?_
    show G 106 37 [some (.inr (.inr x0)), some (.inl x1)] [.inl 1] H = _
    exact e1 hG PT_106 k106_37 _ _ _
  · show G 106 8 [some (.inr (.inr x0)), some (.inl x1)] [] H = _
    refine Eq.trans (e1 hG PT_106 k106_8 _ _ _) ?_
    show G 106 9 [some (.inr (.inr x0)), some (.inl x1)] [.inr (.inr x0)] H = _
    refine Eq.trans (e1 hG PT_106 k106_9 _ _ _) ?_
    refine bdc fun r1 => ?_
    show G 106 12 [some (.inr (.inr x0)), some (.inl x1)] [.inr (.inr r1)] H = _
    refine Eq.trans (e1 hG PT_106 k106_12 _ _ _) ?_
    show G 106 13 [some (.inr (.inr x0)), some (.inl x1)] [.inl 0, .inr (.inr r1)] H = _
    refine Eq.trans (e1 hG PT_106 k106_13 _ _ _) ?_
    refine bdc fun r2 => ?_
    show G 106 14 [some (.inr (.inr x0)), some (.inl x1)] [.inr (.inr r2)] H = _
    refine Eq.trans (e1 hG PT_106 k106_14 _ _ _) ?_
    show G 106 15 [some (.inr (.inr x0)), some (.inl x1)] [.inl x1, .inr (.inr r2)] H = _
    refine Eq.trans (e1 hG PT_106 k106_15 _ _ _) ?_
    refine bdc fun j3 => ?_
    show G 106 16 [some (.inr (.inr x0)), some (.inl x1)] [.inr (.inl j3)] H = _
    refine Eq.trans (e1 hG PT_106 k106_16 _ _ _) ?_
    show G 106 17 [some (.inr (.inr x0)), some (.inl x1)] [.inr (.inr x0), .inr (.inl j3)] H = _
    refine Eq.trans (e1 hG PT_106 k106_17 _ _ _) ?_
    refine bdc fun r4 => ?_
    show G 106 20 [some (.inr (.inr x0)), some (.inl x1)] [.inr (.inr r4), .inr (.inl j3)] H = _
    refine Eq.trans (e1 hG PT_106 k106_20 _ _ _) ?_
    show G 106 21 [some (.inr (.inr x0)), some (.inl x1)] [.inl 1, .inr (.inr r4), .inr (.inl j3)] H = _
    refine Eq.trans (e1 hG PT_106 k106_21 _ _ _) ?_
    refine bdc fun r5 => ?_
    show G 106 22 [some (.inr (.inr x0)), some (.inl x1)] [.inr (.inr r5), .inr (.inl j3)] H = _
    refine Eq.trans (e1 hG PT_106 k106_22 _ _ _) ?_
    show G 106 23 [some (.inr (.inr x0)), some (.inl x1)] [.inl x1, .inr (.inr r5), .inr (.inl j3)] H = _
    refine Eq.trans (e1 hG PT_106 k106_23 _ _ _) ?_
    refine bdc fun j6 => ?_
    show G 106 24 [some (.inr (.inr x0)), some (.inl x1)] [.inr (.inl j6), .inr (.inl j3)] H = _
    refine Eq.trans (e1 hG PT_106 k106_24 _ _ _) ?_
    show G 106 25 [some (.inr (.inr x0)), some (.inl x1)] [.inl (lg_cmp j3 j6)] H = _
    refine Eq.trans (e1 hG PT_106 k106_25 _ _ _) ?_
    refine bfc ?_ ?_
    · show G 106 30 [some (.inr (.inr x0)), some (.inl x1)] [] H = _
      refine Eq.trans (e1 hG PT_106 k106_30 _ _ _) ?_
      show G 106 33 [some (.inr (.inr x0)), some (.inl (x1 + 1))] [] H = _
      refine Eq.trans (e1 hG PT_106 k106_33 _ _ _) ?_
      rfl
    · show G 106 28 [some (.inr (.inr x0)), some (.inl x1)] [] H = _
      refine Eq.trans (e1 hG PT_106 k106_28 _ _ _) ?_
      show G 106 29 [some (.inr (.inr x0)), some (.inl x1)] [.inl 0] H = _
      exact e1 hG PT_106 k106_29 _ _ _
-- StepsAhead.worth(IIII)I
theorem PT_107 : PT 107 = pt107 := rfl
theorem k107_0 : lkp pt107 0 = iP 1 (fAld 0) := rfl
theorem k107_1 : lkp pt107 1 = iP 2 (fIld 1) := rfl
theorem k107_2 : lkp pt107 2 = iCK 5 11 15 2 2 3 := rfl
theorem k107_5 : lkp pt107 5 = iP 7 (fAst 5) := rfl
theorem k107_7 : lkp pt107 7 = iP 9 (fAld 5) := rfl
theorem k107_9 : lkp pt107 9 = iB 12 37 bN := rfl
theorem k107_12 : lkp pt107 12 = iP 13 (fIld 2) := rfl
theorem k107_13 : lkp pt107 13 = iC 16 102 1 1 1 := rfl
theorem k107_16 : lkp pt107 16 = iB 19 37 (b1 (fun x => decide (x = 0))) := rfl
theorem k107_19 : lkp pt107 19 = iP 20 (fIld 3) := rfl
theorem k107_20 : lkp pt107 20 = iC 23 102 1 1 1 := rfl
theorem k107_23 : lkp pt107 23 = iB 26 37 (b1 (fun x => decide (x = 0))) := rfl
theorem k107_26 : lkp pt107 26 = iP 28 (fIld 4) := rfl
theorem k107_28 : lkp pt107 28 = iB 31 37 (b1 (fun x => decide (x < 0))) := rfl
theorem k107_31 : lkp pt107 31 = iP 33 (fIld 4) := rfl
theorem k107_33 : lkp pt107 33 = iP 34 (fK (.inl 4)) := rfl
theorem k107_34 : lkp pt107 34 = iB 37 40 (b2 (fun x y => decide (x ≤ y))) := rfl
theorem k107_37 : lkp pt107 37 = iP 39 (fK (.inl (-1000001))) := rfl
theorem k107_39 : lkp pt107 39 = iRet rI := rfl
theorem k107_40 : lkp pt107 40 = iP 41 (fAld 0) := rfl
theorem k107_41 : lkp pt107 41 = iP 42 (fAld 0) := rfl
theorem k107_42 : lkp pt107 42 = iP 44 (fAld 5) := rfl
theorem k107_44 : lkp pt107 44 = iCK 47 11 68 4 2 1 := rfl
theorem k107_47 : lkp pt107 47 = iCK 50 11 69 3 2 1 := rfl
theorem k107_50 : lkp pt107 50 = iB 53 56 (b1 (fun x => decide (x ≠ 0))) := rfl
theorem k107_53 : lkp pt107 53 = iP 55 (fK (.inl (-1000002))) := rfl
theorem k107_55 : lkp pt107 55 = iRet rI := rfl
theorem k107_56 : lkp pt107 56 = iP 57 (fAld 0) := rfl
theorem k107_57 : lkp pt107 57 = iRR 60 (gtR 49) := rfl
theorem k107_60 : lkp pt107 60 = iP 62 (fAld 5) := rfl
theorem k107_62 : lkp pt107 62 = iP 63 (fIld 2) := rfl
theorem k107_63 : lkp pt107 63 = iP 64 (fIld 3) := rfl
theorem k107_64 : lkp pt107 64 = iP 66 (fIld 4) := rfl
theorem k107_66 : lkp pt107 66 = iCK 69 8 108 6 5 1 := rfl
theorem k107_69 : lkp pt107 69 = iRet rI := rfl
theorem b107_0 {G : AG} (hG : FIX G) (x0 : Nat) (x1 : Int32) (x2 : Int32) (x3 : Int32) (x4 : Int32) (H : Hp) : G 107 0 [some (.inr (.inr x0)), some (.inl x1), some (.inl x2), some (.inl x3), some (.inl x4), none] [] H = (bif Nat.beq (H.1 x0).1 11 then (G 15 0 [some (.inr (.inr x0)), some (.inl x1)] [] H).bind fun u1 => (asR u1.1).bind fun r2 => bif Nat.beq r2 0 then G 107 37 [some (.inr (.inr x0)), some (.inl x1), some (.inl x2), some (.inl x3), some (.inl x4), some (.inr (.inr r2))] [] u1.2 else (G 102 0 [some (.inl x2)] [] u1.2).bind fun u3 => (asI u3.1).bind fun i4 => bif decide ((i4 : Int32) = 0) then G 107 37 [some (.inr (.inr x0)), some (.inl x1), some (.inl x2), some (.inl x3), some (.inl x4), some (.inr (.inr r2))] [] u3.2 else (G 102 0 [some (.inl x3)] [] u3.2).bind fun u5 => (asI u5.1).bind fun i6 => bif decide ((i6 : Int32) = 0) then G 107 37 [some (.inr (.inr x0)), some (.inl x1), some (.inl x2), some (.inl x3), some (.inl x4), some (.inr (.inr r2))] [] u5.2 else bif decide ((x4 : Int32) < 0) then G 107 37 [some (.inr (.inr x0)), some (.inl x1), some (.inl x2), some (.inl x3), some (.inl x4), some (.inr (.inr r2))] [] u5.2 else bif decide ((x4 : Int32) ≤ (4 : Int32)) then bif Nat.beq (u5.2.1 x0).1 11 then (G 68 0 [some (.inr (.inr x0)), some (.inr (.inr r2)), none, none] [] u5.2).bind fun u7 => (asI u7.1).bind fun i8 => bif Nat.beq (u7.2.1 x0).1 11 then (G 69 0 [some (.inr (.inr x0)), some (.inl i8), none] [] u7.2).bind fun u9 => (asI u9.1).bind fun i10 => bif decide ((i10 : Int32) ≠ 0) then (hgR u9.2 x0 49).bind fun r11 => bif Nat.beq (u9.2.1 r11).1 8 then (G 108 0 [some (.inr (.inr r11)), some (.inr (.inr r2)), some (.inl x2), some (.inl x3), some (.inl x4), none] [] u9.2).bind fun u12 => (asI u12.1).bind fun i13 => some (some (.inl i13), u12.2) else none else some (some (.inl ((-1000002))), u9.2) else none else none else G 107 37 [some (.inr (.inr x0)), some (.inl x1), some (.inl x2), some (.inl x3), some (.inl x4), some (.inr (.inr r2))] [] u5.2 else none) := by
  refine Eq.trans (e1 hG PT_107 k107_0 _ _ _) ?_
  show G 107 1 [some (.inr (.inr x0)), some (.inl x1), some (.inl x2), some (.inl x3), some (.inl x4), none] [.inr (.inr x0)] H = _
  refine Eq.trans (e1 hG PT_107 k107_1 _ _ _) ?_
  show G 107 2 [some (.inr (.inr x0)), some (.inl x1), some (.inl x2), some (.inl x3), some (.inl x4), none] [.inl x1, .inr (.inr x0)] H = _
  refine Eq.trans (e1 hG PT_107 k107_2 _ _ _) ?_
  refine bfc ?_ ?_
  · refine bdc fun u1 => ?_
    refine bdc fun r2 => ?_
    show G 107 5 [some (.inr (.inr x0)), some (.inl x1), some (.inl x2), some (.inl x3), some (.inl x4), none] [.inr (.inr r2)] u1.2 = _
    refine Eq.trans (e1 hG PT_107 k107_5 _ _ _) ?_
    show G 107 7 [some (.inr (.inr x0)), some (.inl x1), some (.inl x2), some (.inl x3), some (.inl x4), some (.inr (.inr r2))] [] u1.2 = _
    refine Eq.trans (e1 hG PT_107 k107_7 _ _ _) ?_
    show G 107 9 [some (.inr (.inr x0)), some (.inl x1), some (.inl x2), some (.inl x3), some (.inl x4), some (.inr (.inr r2))] [.inr (.inr r2)] u1.2 = _
    refine Eq.trans (e1 hG PT_107 k107_9 _ _ _) ?_
    refine bfc ?_ ?_
    · rfl
    · show G 107 12 [some (.inr (.inr x0)), some (.inl x1), some (.inl x2), some (.inl x3), some (.inl x4), some (.inr (.inr r2))] [] u1.2 = _
      refine Eq.trans (e1 hG PT_107 k107_12 _ _ _) ?_
      show G 107 13 [some (.inr (.inr x0)), some (.inl x1), some (.inl x2), some (.inl x3), some (.inl x4), some (.inr (.inr r2))] [.inl x2] u1.2 = _
      refine Eq.trans (e1 hG PT_107 k107_13 _ _ _) ?_
      refine bdc fun u3 => ?_
      refine bdc fun i4 => ?_
      show G 107 16 [some (.inr (.inr x0)), some (.inl x1), some (.inl x2), some (.inl x3), some (.inl x4), some (.inr (.inr r2))] [.inl i4] u3.2 = _
      refine Eq.trans (e1 hG PT_107 k107_16 _ _ _) ?_
      refine bfc ?_ ?_
      · rfl
      · show G 107 19 [some (.inr (.inr x0)), some (.inl x1), some (.inl x2), some (.inl x3), some (.inl x4), some (.inr (.inr r2))] [] u3.2 = _
        refine Eq.trans (e1 hG PT_107 k107_19 _ _ _) ?_
        show G 107 20 [some (.inr (.inr x0)), some (.inl x1), some (.inl x2), some (.inl x3), some (.inl x4), some (.inr (.inr r2))] [.inl x3] u3.2 = _
        refine Eq.trans (e1 hG PT_107 k107_20 _ _ _) ?_
        refine bdc fun u5 => ?_
        refine bdc fun i6 => ?_
        show G 107 23 [some (.inr (.inr x0)), some (.inl x1), some (.inl x2), some (.inl x3), some (.inl x4), some (.inr (.inr r2))] [.inl i6] u5.2 = _
        refine Eq.trans (e1 hG PT_107 k107_23 _ _ _) ?_
        refine bfc ?_ ?_
        · rfl
        · show G 107 26 [some (.inr (.inr x0)), some (.inl x1), some (.inl x2), some (.inl x3), some (.inl x4), some (.inr (.inr r2))] [] u5.2 = _
          refine Eq.trans (e1 hG PT_107 k107_26 _ _ _) ?_
          show G 107 28 [some (.inr (.inr x0)), some (.inl x1), some (.inl x2), some (.inl x3), some (.inl x4), some (.inr (.inr r2))] [.inl x4] u5.2 = _
          refine Eq.trans (e1 hG PT_107 k107_28 _ _ _) ?_
          refine bfc ?_ ?_
          · rfl
          · show G 107 31 [some (.inr (.inr x0)), some (.inl x1), some (.inl x2), some (.inl x3), some (.inl x4), some (.inr (.inr r2))] [] u5.2 = _
            refine Eq.trans (e1 hG PT_107 k107_31 _ _ _) ?_
            show G 107 33 [some (.inr (.inr x0)), some (.inl x1), some (.inl x2), some (.inl x3), some (.inl x4), some (.inr (.inr r2))] [.inl x4] u5.2 = _
            refine Eq.trans (e1 hG PT_107 k107_33 _ _ _) ?_
            show G 107 34 [some (.inr (.inr x0)), some (.inl x1), some (.inl x2), some (.inl x3), some (.inl x4), some (.inr (.inr r2))] [.inl 4, .inl x4] u5.2 = _
            refine Eq.trans (e1 hG PT_107 k107_34 _ _ _) ?_
            refine bfc ?_ ?_
            · show G 107 40 [some (.inr (.inr x0)), some (.inl x1), some (.inl x2), some (.inl x3), some (.inl x4), some (.inr (.inr r2))] [] u5.2 = _
              refine Eq.trans (e1 hG PT_107 k107_40 _ _ _) ?_
              show G 107 41 [some (.inr (.inr x0)), some (.inl x1), some (.inl x2), some (.inl x3), some (.inl x4), some (.inr (.inr r2))] [.inr (.inr x0)] u5.2 = _
              refine Eq.trans (e1 hG PT_107 k107_41 _ _ _) ?_
              show G 107 42 [some (.inr (.inr x0)), some (.inl x1), some (.inl x2), some (.inl x3), some (.inl x4), some (.inr (.inr r2))] [.inr (.inr x0), .inr (.inr x0)] u5.2 = _
              refine Eq.trans (e1 hG PT_107 k107_42 _ _ _) ?_
              show G 107 44 [some (.inr (.inr x0)), some (.inl x1), some (.inl x2), some (.inl x3), some (.inl x4), some (.inr (.inr r2))] [.inr (.inr r2), .inr (.inr x0), .inr (.inr x0)] u5.2 = _
              refine Eq.trans (e1 hG PT_107 k107_44 _ _ _) ?_
              refine bfc ?_ ?_
              · refine bdc fun u7 => ?_
                refine bdc fun i8 => ?_
                show G 107 47 [some (.inr (.inr x0)), some (.inl x1), some (.inl x2), some (.inl x3), some (.inl x4), some (.inr (.inr r2))] [.inl i8, .inr (.inr x0)] u7.2 = _
                refine Eq.trans (e1 hG PT_107 k107_47 _ _ _) ?_
                refine bfc ?_ ?_
                · refine bdc fun u9 => ?_
                  refine bdc fun i10 => ?_
                  show G 107 50 [some (.inr (.inr x0)), some (.inl x1), some (.inl x2), some (.inl x3), some (.inl x4), some (.inr (.inr r2))] [.inl i10] u9.2 = _
                  refine Eq.trans (e1 hG PT_107 k107_50 _ _ _) ?_
                  refine bfc ?_ ?_
                  · show G 107 56 [some (.inr (.inr x0)), some (.inl x1), some (.inl x2), some (.inl x3), some (.inl x4), some (.inr (.inr r2))] [] u9.2 = _
                    refine Eq.trans (e1 hG PT_107 k107_56 _ _ _) ?_
                    show G 107 57 [some (.inr (.inr x0)), some (.inl x1), some (.inl x2), some (.inl x3), some (.inl x4), some (.inr (.inr r2))] [.inr (.inr x0)] u9.2 = _
                    refine Eq.trans (e1 hG PT_107 k107_57 _ _ _) ?_
                    refine bdc fun r11 => ?_
                    show G 107 60 [some (.inr (.inr x0)), some (.inl x1), some (.inl x2), some (.inl x3), some (.inl x4), some (.inr (.inr r2))] [.inr (.inr r11)] u9.2 = _
                    refine Eq.trans (e1 hG PT_107 k107_60 _ _ _) ?_
                    show G 107 62 [some (.inr (.inr x0)), some (.inl x1), some (.inl x2), some (.inl x3), some (.inl x4), some (.inr (.inr r2))] [.inr (.inr r2), .inr (.inr r11)] u9.2 = _
                    refine Eq.trans (e1 hG PT_107 k107_62 _ _ _) ?_
                    show G 107 63 [some (.inr (.inr x0)), some (.inl x1), some (.inl x2), some (.inl x3), some (.inl x4), some (.inr (.inr r2))] [.inl x2, .inr (.inr r2), .inr (.inr r11)] u9.2 = _
                    refine Eq.trans (e1 hG PT_107 k107_63 _ _ _) ?_
                    show G 107 64 [some (.inr (.inr x0)), some (.inl x1), some (.inl x2), some (.inl x3), some (.inl x4), some (.inr (.inr r2))] [.inl x3, .inl x2, .inr (.inr r2), .inr (.inr r11)] u9.2 = _
                    refine Eq.trans (e1 hG PT_107 k107_64 _ _ _) ?_
                    show G 107 66 [some (.inr (.inr x0)), some (.inl x1), some (.inl x2), some (.inl x3), some (.inl x4), some (.inr (.inr r2))] [.inl x4, .inl x3, .inl x2, .inr (.inr r2), .inr (.inr r11)] u9.2 = _
                    refine Eq.trans (e1 hG PT_107 k107_66 _ _ _) ?_
                    refine bfc ?_ ?_
                    · refine bdc fun u12 => ?_
                      refine bdc fun i13 => ?_
                      show G 107 69 [some (.inr (.inr x0)), some (.inl x1), some (.inl x2), some (.inl x3), some (.inl x4), some (.inr (.inr r2))] [.inl i13] u12.2 = _
                      exact e1 hG PT_107 k107_69 _ _ _
                    · rfl
                  · show G 107 53 [some (.inr (.inr x0)), some (.inl x1), some (.inl x2), some (.inl x3), some (.inl x4), some (.inr (.inr r2))] [] u9.2 = _
                    refine Eq.trans (e1 hG PT_107 k107_53 _ _ _) ?_
                    show G 107 55 [some (.inr (.inr x0)), some (.inl x1), some (.inl x2), some (.inl x3), some (.inl x4), some (.inr (.inr r2))] [.inl (-1000002)] u9.2 = _
                    exact e1 hG PT_107 k107_55 _ _ _
                · rfl
              · rfl
            · rfl
  · rfl
theorem b107_37 {G : AG} (hG : FIX G) (x0 : Nat) (x1 : Int32) (x2 : Int32) (x3 : Int32) (x4 : Int32) (x5 : Nat) (H : Hp) : G 107 37 [some (.inr (.inr x0)), some (.inl x1), some (.inl x2), some (.inl x3), some (.inl x4), some (.inr (.inr x5))] [] H = (some (some (.inl ((-1000001))), H)) := by
  refine Eq.trans (e1 hG PT_107 k107_37 _ _ _) ?_
  show G 107 39 [some (.inr (.inr x0)), some (.inl x1), some (.inl x2), some (.inl x3), some (.inl x4), some (.inr (.inr x5))] [.inl (-1000001)] H = _
  exact e1 hG PT_107 k107_39 _ _ _
-- StepsAhead$Runner.stepsOf(LStepsAhead$Routine;III)I
theorem PT_108 : PT 108 = pt108 := rfl
theorem k108_0 : lkp pt108 0 = iP 1 (fAld 0) := rfl
theorem k108_1 : lkp pt108 1 = iP 3 (fIld 4) := rfl
theorem k108_3 : lkp pt108 3 = iW 6 (ptI 34) := rfl
theorem k108_6 : lkp pt108 6 = iP 7 (fAld 0) := rfl
theorem k108_7 : lkp pt108 7 = iP 8 (fK (.inl 0)) := rfl
theorem k108_8 : lkp pt108 8 = iW 11 (ptI 35) := rfl
theorem k108_11 : lkp pt108 11 = iP 12 (fAld 0) := rfl
theorem k108_12 : lkp pt108 12 = iP 13 (fK (.inl 0)) := rfl
theorem k108_13 : lkp pt108 13 = iW 16 (ptI 36) := rfl
theorem k108_16 : lkp pt108 16 = iP 17 (fAld 0) := rfl
theorem k108_17 : lkp pt108 17 = iP 18 (fK (.inl 0)) := rfl
theorem k108_18 : lkp pt108 18 = iW 21 (ptZ 37) := rfl
theorem k108_21 : lkp pt108 21 = iP 22 (fAld 0) := rfl
theorem k108_22 : lkp pt108 22 = iP 23 (fAld 1) := rfl
theorem k108_23 : lkp pt108 23 = iW 26 (ptR 38) := rfl
theorem k108_26 : lkp pt108 26 = iP 27 (fAld 0) := rfl
theorem k108_27 : lkp pt108 27 = iP 28 (fK (.inl 0)) := rfl
theorem k108_28 : lkp pt108 28 = iW 31 (ptI 39) := rfl
theorem k108_31 : lkp pt108 31 = iP 32 (fAld 1) := rfl
theorem k108_32 : lkp pt108 32 = iP 33 (fIld 2) := rfl
theorem k108_33 : lkp pt108 33 = iP 34 fI2l := rfl
theorem k108_34 : lkp pt108 34 = iP 35 (fIld 3) := rfl
theorem k108_35 : lkp pt108 35 = iP 36 fI2l := rfl
theorem k108_36 : lkp pt108 36 = iP 37 (fK (.inr (.inr 0))) := rfl
theorem k108_37 : lkp pt108 37 = iP 38 (fK (.inl 0)) := rfl
theorem k108_38 : lkp pt108 38 = iCK 41 7 109 7 5 0 := rfl
theorem k108_41 : lkp pt108 41 = iP 42 (fK (.inl 0)) := rfl
theorem k108_42 : lkp pt108 42 = iP 44 (fIst 5) := rfl
theorem k108_44 : lkp pt108 44 = iP 46 (fIld 5) := rfl
theorem k108_46 : lkp pt108 46 = iP 48 (fK (.inl 10000000)) := rfl
theorem k108_48 : lkp pt108 48 = iB 51 79 (b2 (fun x y => decide (y ≤ x))) := rfl
theorem k108_51 : lkp pt108 51 = iP 52 (fAld 0) := rfl
theorem k108_52 : lkp pt108 52 = iRR 55 (gtR 38) := rfl
theorem k108_55 : lkp pt108 55 = iB 58 79 bN := rfl
theorem k108_58 : lkp pt108 58 = iP 59 (fAld 0) := rfl
theorem k108_59 : lkp pt108 59 = iRI 62 (gtI 37) := rfl
theorem k108_62 : lkp pt108 62 = iB 65 79 (b1 (fun x => decide (x ≠ 0))) := rfl
theorem k108_65 : lkp pt108 65 = iP 66 (fAld 0) := rfl
theorem k108_66 : lkp pt108 66 = iP 67 (fAld 0) := rfl
theorem k108_67 : lkp pt108 67 = iRR 70 (gtR 38) := rfl
theorem k108_70 : lkp pt108 70 = iCK 73 8 110 7 2 0 := rfl
theorem k108_73 : lkp pt108 73 = iP 76 (fInc 5 1) := rfl
theorem k108_76 : lkp pt108 76 = iP 44 fGo := rfl
theorem k108_79 : lkp pt108 79 = iP 80 (fAld 0) := rfl
theorem k108_80 : lkp pt108 80 = iRR 83 (gtR 38) := rfl
theorem k108_83 : lkp pt108 83 = iB 86 93 bNN := rfl
theorem k108_86 : lkp pt108 86 = iP 87 (fAld 0) := rfl
theorem k108_87 : lkp pt108 87 = iRI 90 (gtI 35) := rfl
theorem k108_90 : lkp pt108 90 = iP 95 fGo := rfl
theorem k108_93 : lkp pt108 93 = iP 95 (fK (.inl (-1000004))) := rfl
theorem k108_95 : lkp pt108 95 = iRet rI := rfl
theorem b108_0 {G : AG} (hG : FIX G) (x0 : Nat) (x1 : Nat) (x2 : Int32) (x3 : Int32) (x4 : Int32) (H : Hp) : G 108 0 [some (.inr (.inr x0)), some (.inr (.inr x1)), some (.inl x2), some (.inl x3), some (.inl x4), none] [] H = ((hpI H x0 34 x4).bind fun H1 => (hpI H1 x0 35 0).bind fun H2 => (hpI H2 x0 36 0).bind fun H3 => (hpZ H3 x0 37 0).bind fun H4 => (hpR H4 x0 38 x1).bind fun H5 => (hpI H5 x0 39 0).bind fun H6 => bif Nat.beq (H6.1 x1).1 7 then (G 109 0 [some (.inr (.inr x1)), some (.inr (.inl x2.toInt64)), none, some (.inr (.inl x3.toInt64)), none, some (.inr (.inr 0)), some (.inl 0)] [] H6).bind fun u7 => (asV u7.1).bind fun _ => G 108 44 [some (.inr (.inr x0)), some (.inr (.inr x1)), some (.inl x2), some (.inl x3), some (.inl x4), some (.inl 0)] [] u7.2 else none) := by
  refine Eq.trans (e1 hG PT_108 k108_0 _ _ _) ?_
  show G 108 1 [some (.inr (.inr x0)), some (.inr (.inr x1)), some (.inl x2), some (.inl x3), some (.inl x4), none] [.inr (.inr x0)] H = _
  refine Eq.trans (e1 hG PT_108 k108_1 _ _ _) ?_
  show G 108 3 [some (.inr (.inr x0)), some (.inr (.inr x1)), some (.inl x2), some (.inl x3), some (.inl x4), none] [.inl x4, .inr (.inr x0)] H = _
  refine Eq.trans (e1 hG PT_108 k108_3 _ _ _) ?_
  refine bdc fun H1 => ?_
  show G 108 6 [some (.inr (.inr x0)), some (.inr (.inr x1)), some (.inl x2), some (.inl x3), some (.inl x4), none] [] H1 = _
  refine Eq.trans (e1 hG PT_108 k108_6 _ _ _) ?_
  show G 108 7 [some (.inr (.inr x0)), some (.inr (.inr x1)), some (.inl x2), some (.inl x3), some (.inl x4), none] [.inr (.inr x0)] H1 = _
  refine Eq.trans (e1 hG PT_108 k108_7 _ _ _) ?_
  show G 108 8 [some (.inr (.inr x0)), some (.inr (.inr x1)), some (.inl x2), some (.inl x3), some (.inl x4), none] [.inl 0, .inr (.inr x0)] H1 = _
  refine Eq.trans (e1 hG PT_108 k108_8 _ _ _) ?_
  refine bdc fun H2 => ?_
  show G 108 11 [some (.inr (.inr x0)), some (.inr (.inr x1)), some (.inl x2), some (.inl x3), some (.inl x4), none] [] H2 = _
  refine Eq.trans (e1 hG PT_108 k108_11 _ _ _) ?_
  show G 108 12 [some (.inr (.inr x0)), some (.inr (.inr x1)), some (.inl x2), some (.inl x3), some (.inl x4), none] [.inr (.inr x0)] H2 = _
  refine Eq.trans (e1 hG PT_108 k108_12 _ _ _) ?_
  show G 108 13 [some (.inr (.inr x0)), some (.inr (.inr x1)), some (.inl x2), some (.inl x3), some (.inl x4), none] [.inl 0, .inr (.inr x0)] H2 = _
  refine Eq.trans (e1 hG PT_108 k108_13 _ _ _) ?_
  refine bdc fun H3 => ?_
  show G 108 16 [some (.inr (.inr x0)), some (.inr (.inr x1)), some (.inl x2), some (.inl x3), some (.inl x4), none] [] H3 = _
  refine Eq.trans (e1 hG PT_108 k108_16 _ _ _) ?_
  show G 108 17 [some (.inr (.inr x0)), some (.inr (.inr x1)), some (.inl x2), some (.inl x3), some (.inl x4), none] [.inr (.inr x0)] H3 = _
  refine Eq.trans (e1 hG PT_108 k108_17 _ _ _) ?_
  show G 108 18 [some (.inr (.inr x0)), some (.inr (.inr x1)), some (.inl x2), some (.inl x3), some (.inl x4), none] [.inl 0, .inr (.inr x0)] H3 = _
  refine Eq.trans (e1 hG PT_108 k108_18 _ _ _) ?_
  refine bdc fun H4 => ?_
  show G 108 21 [some (.inr (.inr x0)), some (.inr (.inr x1)), some (.inl x2), some (.inl x3), some (.inl x4), none] [] H4 = _
  refine Eq.trans (e1 hG PT_108 k108_21 _ _ _) ?_
  show G 108 22 [some (.inr (.inr x0)), some (.inr (.inr x1)), some (.inl x2), some (.inl x3), some (.inl x4), none] [.inr (.inr x0)] H4 = _
  refine Eq.trans (e1 hG PT_108 k108_22 _ _ _) ?_
  show G 108 23 [some (.inr (.inr x0)), some (.inr (.inr x1)), some (.inl x2), some (.inl x3), some (.inl x4), none] [.inr (.inr x1), .inr (.inr x0)] H4 = _
  refine Eq.trans (e1 hG PT_108 k108_23 _ _ _) ?_
  refine bdc fun H5 => ?_
  show G 108 26 [some (.inr (.inr x0)), some (.inr (.inr x1)), some (.inl x2), some (.inl x3), some (.inl x4), none] [] H5 = _
  refine Eq.trans (e1 hG PT_108 k108_26 _ _ _) ?_
  show G 108 27 [some (.inr (.inr x0)), some (.inr (.inr x1)), some (.inl x2), some (.inl x3), some (.inl x4), none] [.inr (.inr x0)] H5 = _
  refine Eq.trans (e1 hG PT_108 k108_27 _ _ _) ?_
  show G 108 28 [some (.inr (.inr x0)), some (.inr (.inr x1)), some (.inl x2), some (.inl x3), some (.inl x4), none] [.inl 0, .inr (.inr x0)] H5 = _
  refine Eq.trans (e1 hG PT_108 k108_28 _ _ _) ?_
  refine bdc fun H6 => ?_
  show G 108 31 [some (.inr (.inr x0)), some (.inr (.inr x1)), some (.inl x2), some (.inl x3), some (.inl x4), none] [] H6 = _
  refine Eq.trans (e1 hG PT_108 k108_31 _ _ _) ?_
  show G 108 32 [some (.inr (.inr x0)), some (.inr (.inr x1)), some (.inl x2), some (.inl x3), some (.inl x4), none] [.inr (.inr x1)] H6 = _
  refine Eq.trans (e1 hG PT_108 k108_32 _ _ _) ?_
  show G 108 33 [some (.inr (.inr x0)), some (.inr (.inr x1)), some (.inl x2), some (.inl x3), some (.inl x4), none] [.inl x2, .inr (.inr x1)] H6 = _
  refine Eq.trans (e1 hG PT_108 k108_33 _ _ _) ?_
  show G 108 34 [some (.inr (.inr x0)), some (.inr (.inr x1)), some (.inl x2), some (.inl x3), some (.inl x4), none] [.inr (.inl x2.toInt64), .inr (.inr x1)] H6 = _
  refine Eq.trans (e1 hG PT_108 k108_34 _ _ _) ?_
  show G 108 35 [some (.inr (.inr x0)), some (.inr (.inr x1)), some (.inl x2), some (.inl x3), some (.inl x4), none] [.inl x3, .inr (.inl x2.toInt64), .inr (.inr x1)] H6 = _
  refine Eq.trans (e1 hG PT_108 k108_35 _ _ _) ?_
  show G 108 36 [some (.inr (.inr x0)), some (.inr (.inr x1)), some (.inl x2), some (.inl x3), some (.inl x4), none] [.inr (.inl x3.toInt64), .inr (.inl x2.toInt64), .inr (.inr x1)] H6 = _
  refine Eq.trans (e1 hG PT_108 k108_36 _ _ _) ?_
  show G 108 37 [some (.inr (.inr x0)), some (.inr (.inr x1)), some (.inl x2), some (.inl x3), some (.inl x4), none] [.inr (.inr 0), .inr (.inl x3.toInt64), .inr (.inl x2.toInt64), .inr (.inr x1)] H6 = _
  refine Eq.trans (e1 hG PT_108 k108_37 _ _ _) ?_
  show G 108 38 [some (.inr (.inr x0)), some (.inr (.inr x1)), some (.inl x2), some (.inl x3), some (.inl x4), none] [.inl 0, .inr (.inr 0), .inr (.inl x3.toInt64), .inr (.inl x2.toInt64), .inr (.inr x1)] H6 = _
  refine Eq.trans (e1 hG PT_108 k108_38 _ _ _) ?_
  refine bfc ?_ ?_
  · refine bdc fun u7 => ?_
    refine bdc fun _ => ?_
    show G 108 41 [some (.inr (.inr x0)), some (.inr (.inr x1)), some (.inl x2), some (.inl x3), some (.inl x4), none] [] u7.2 = _
    refine Eq.trans (e1 hG PT_108 k108_41 _ _ _) ?_
    show G 108 42 [some (.inr (.inr x0)), some (.inr (.inr x1)), some (.inl x2), some (.inl x3), some (.inl x4), none] [.inl 0] u7.2 = _
    refine Eq.trans (e1 hG PT_108 k108_42 _ _ _) ?_
    rfl
  · rfl
theorem b108_44 {G : AG} (hG : FIX G) (x0 : Nat) (x1 : Nat) (x2 : Int32) (x3 : Int32) (x4 : Int32) (x5 : Int32) (H : Hp) : G 108 44 [some (.inr (.inr x0)), some (.inr (.inr x1)), some (.inl x2), some (.inl x3), some (.inl x4), some (.inl x5)] [] H = (bif decide ((10000000 : Int32) ≤ (x5 : Int32)) then G 108 79 [some (.inr (.inr x0)), some (.inr (.inr x1)), some (.inl x2), some (.inl x3), some (.inl x4), some (.inl x5)] [] H else (hgR H x0 38).bind fun r1 => bif Nat.beq r1 0 then G 108 79 [some (.inr (.inr x0)), some (.inr (.inr x1)), some (.inl x2), some (.inl x3), some (.inl x4), some (.inl x5)] [] H else (hgI H x0 37).bind fun i2 => bif decide ((i2 : Int32) ≠ 0) then G 108 79 [some (.inr (.inr x0)), some (.inr (.inr x1)), some (.inl x2), some (.inl x3), some (.inl x4), some (.inl x5)] [] H else (hgR H x0 38).bind fun r3 => bif Nat.beq (H.1 x0).1 8 then (G 110 0 [some (.inr (.inr x0)), some (.inr (.inr r3)), none, none, none, none, none] [] H).bind fun u4 => (asV u4.1).bind fun _ => G 108 44 [some (.inr (.inr x0)), some (.inr (.inr x1)), some (.inl x2), some (.inl x3), some (.inl x4), some (.inl (x5 + 1))] [] u4.2 else none) := by
  refine Eq.trans (e1 hG PT_108 k108_44 _ _ _) ?_
  show G 108 46 [some (.inr (.inr x0)), some (.inr (.inr x1)), some (.inl x2), some (.inl x3), some (.inl x4), some (.inl x5)] [.inl x5] H = _
  refine Eq.trans (e1 hG PT_108 k108_46 _ _ _) ?_
  show G 108 48 [some (.inr (.inr x0)), some (.inr (.inr x1)), some (.inl x2), some (.inl x3), some (.inl x4), some (.inl x5)] [.inl 10000000, .inl x5] H = _
  refine Eq.trans (e1 hG PT_108 k108_48 _ _ _) ?_
  refine bfc ?_ ?_
  · rfl
  · show G 108 51 [some (.inr (.inr x0)), some (.inr (.inr x1)), some (.inl x2), some (.inl x3), some (.inl x4), some (.inl x5)] [] H = _
    refine Eq.trans (e1 hG PT_108 k108_51 _ _ _) ?_
    show G 108 52 [some (.inr (.inr x0)), some (.inr (.inr x1)), some (.inl x2), some (.inl x3), some (.inl x4), some (.inl x5)] [.inr (.inr x0)] H = _
    refine Eq.trans (e1 hG PT_108 k108_52 _ _ _) ?_
    refine bdc fun r1 => ?_
    show G 108 55 [some (.inr (.inr x0)), some (.inr (.inr x1)), some (.inl x2), some (.inl x3), some (.inl x4), some (.inl x5)] [.inr (.inr r1)] H = _
    refine Eq.trans (e1 hG PT_108 k108_55 _ _ _) ?_
    refine bfc ?_ ?_
    · rfl
    · show G 108 58 [some (.inr (.inr x0)), some (.inr (.inr x1)), some (.inl x2), some (.inl x3), some (.inl x4), some (.inl x5)] [] H = _
      refine Eq.trans (e1 hG PT_108 k108_58 _ _ _) ?_
      show G 108 59 [some (.inr (.inr x0)), some (.inr (.inr x1)), some (.inl x2), some (.inl x3), some (.inl x4), some (.inl x5)] [.inr (.inr x0)] H = _
      refine Eq.trans (e1 hG PT_108 k108_59 _ _ _) ?_
      refine bdc fun i2 => ?_
      show G 108 62 [some (.inr (.inr x0)), some (.inr (.inr x1)), some (.inl x2), some (.inl x3), some (.inl x4), some (.inl x5)] [.inl i2] H = _
      refine Eq.trans (e1 hG PT_108 k108_62 _ _ _) ?_
      refine bfc ?_ ?_
      · rfl
      · show G 108 65 [some (.inr (.inr x0)), some (.inr (.inr x1)), some (.inl x2), some (.inl x3), some (.inl x4), some (.inl x5)] [] H = _
        refine Eq.trans (e1 hG PT_108 k108_65 _ _ _) ?_
        show G 108 66 [some (.inr (.inr x0)), some (.inr (.inr x1)), some (.inl x2), some (.inl x3), some (.inl x4), some (.inl x5)] [.inr (.inr x0)] H = _
        refine Eq.trans (e1 hG PT_108 k108_66 _ _ _) ?_
        show G 108 67 [some (.inr (.inr x0)), some (.inr (.inr x1)), some (.inl x2), some (.inl x3), some (.inl x4), some (.inl x5)] [.inr (.inr x0), .inr (.inr x0)] H = _
        refine Eq.trans (e1 hG PT_108 k108_67 _ _ _) ?_
        refine bdc fun r3 => ?_
        show G 108 70 [some (.inr (.inr x0)), some (.inr (.inr x1)), some (.inl x2), some (.inl x3), some (.inl x4), some (.inl x5)] [.inr (.inr r3), .inr (.inr x0)] H = _
        refine Eq.trans (e1 hG PT_108 k108_70 _ _ _) ?_
        refine bfc ?_ ?_
        · refine bdc fun u4 => ?_
          refine bdc fun _ => ?_
          show G 108 73 [some (.inr (.inr x0)), some (.inr (.inr x1)), some (.inl x2), some (.inl x3), some (.inl x4), some (.inl x5)] [] u4.2 = _
          refine Eq.trans (e1 hG PT_108 k108_73 _ _ _) ?_
          show G 108 76 [some (.inr (.inr x0)), some (.inr (.inr x1)), some (.inl x2), some (.inl x3), some (.inl x4), some (.inl (x5 + 1))] [] u4.2 = _
          refine Eq.trans (e1 hG PT_108 k108_76 _ _ _) ?_
          rfl
        · rfl
theorem b108_79 {G : AG} (hG : FIX G) (x0 : Nat) (x1 : Nat) (x2 : Int32) (x3 : Int32) (x4 : Int32) (x5 : Int32) (H : Hp) : G 108 79 [some (.inr (.inr x0)), some (.inr (.inr x1)), some (.inl x2), some (.inl x3), some (.inl x4), some (.inl x5)] [] H = ((hgR H x0 38).bind fun r1 => bif !(Nat.beq r1 0) then G 108 95 [some (.inr (.inr x0)), some (.inr (.inr x1)), some (.inl x2), some (.inl x3), some (.inl x4), some (.inl x5)] [.inl (-1000004)] H else (hgI H x0 35).bind fun i2 => G 108 95 [some (.inr (.inr x0)), some (.inr (.inr x1)), some (.inl x2), some (.inl x3), some (.inl x4), some (.inl x5)] [.inl i2] H) := by
  refine Eq.trans (e1 hG PT_108 k108_79 _ _ _) ?_
  show G 108 80 [some (.inr (.inr x0)), some (.inr (.inr x1)), some (.inl x2), some (.inl x3), some (.inl x4), some (.inl x5)] [.inr (.inr x0)] H = _
  refine Eq.trans (e1 hG PT_108 k108_80 _ _ _) ?_
  refine bdc fun r1 => ?_
  show G 108 83 [some (.inr (.inr x0)), some (.inr (.inr x1)), some (.inl x2), some (.inl x3), some (.inl x4), some (.inl x5)] [.inr (.inr r1)] H = _
  refine Eq.trans (e1 hG PT_108 k108_83 _ _ _) ?_
  refine bfc ?_ ?_
  · show G 108 93 [some (.inr (.inr x0)), some (.inr (.inr x1)), some (.inl x2), some (.inl x3), some (.inl x4), some (.inl x5)] [] H = _
    refine Eq.trans (e1 hG PT_108 k108_93 _ _ _) ?_
    rfl
  · show G 108 86 [some (.inr (.inr x0)), some (.inr (.inr x1)), some (.inl x2), some (.inl x3), some (.inl x4), some (.inl x5)] [] H = _
    refine Eq.trans (e1 hG PT_108 k108_86 _ _ _) ?_
    show G 108 87 [some (.inr (.inr x0)), some (.inr (.inr x1)), some (.inl x2), some (.inl x3), some (.inl x4), some (.inl x5)] [.inr (.inr x0)] H = _
    refine Eq.trans (e1 hG PT_108 k108_87 _ _ _) ?_
    refine bdc fun i2 => ?_
    show G 108 90 [some (.inr (.inr x0)), some (.inr (.inr x1)), some (.inl x2), some (.inl x3), some (.inl x4), some (.inl x5)] [.inl i2] H = _
    refine Eq.trans (e1 hG PT_108 k108_90 _ _ _) ?_
    rfl
theorem b108_95 {G : AG} (hG : FIX G) (x0 : Nat) (x1 : Nat) (x2 : Int32) (x3 : Int32) (x4 : Int32) (x5 : Int32) (s0 : Int32) (H : Hp) : G 108 95 [some (.inr (.inr x0)), some (.inr (.inr x1)), some (.inl x2), some (.inl x3), some (.inl x4), some (.inl x5)] [.inl s0] H = (some (some (.inl s0), H)) := by
  exact e1 hG PT_108 k108_95 _ _ _
-- StepsAhead$Routine.enter(JJLStepsAhead$Routine;I)V
theorem PT_109 : PT 109 = pt109 := rfl
theorem k109_0 : lkp pt109 0 = iP 1 (fAld 0) := rfl
theorem k109_1 : lkp pt109 1 = iRR 4 (gtR 29) := rfl
theorem k109_4 : lkp pt109 4 = iP 5 (fK (.inr (.inl 0))) := rfl
theorem k109_5 : lkp pt109 5 = iC 8 73 5 2 0 := rfl
theorem k109_8 : lkp pt109 8 = iP 9 (fAld 0) := rfl
theorem k109_9 : lkp pt109 9 = iRR 12 (gtR 29) := rfl
theorem k109_12 : lkp pt109 12 = iP 13 (fK (.inl 0)) := rfl
theorem k109_13 : lkp pt109 13 = iP 14 (fJld 1) := rfl
theorem k109_14 : lkp pt109 14 = iW 15 wAJ := rfl
theorem k109_15 : lkp pt109 15 = iP 16 (fAld 0) := rfl
theorem k109_16 : lkp pt109 16 = iRR 19 (gtR 29) := rfl
theorem k109_19 : lkp pt109 19 = iP 20 (fK (.inl 1)) := rfl
theorem k109_20 : lkp pt109 20 = iP 21 (fJld 3) := rfl
theorem k109_21 : lkp pt109 21 = iW 22 wAJ := rfl
theorem k109_22 : lkp pt109 22 = iP 23 (fAld 0) := rfl
theorem k109_23 : lkp pt109 23 = iP 25 (fAld 5) := rfl
theorem k109_25 : lkp pt109 25 = iW 28 (ptR 31) := rfl
theorem k109_28 : lkp pt109 28 = iP 29 (fAld 0) := rfl
theorem k109_29 : lkp pt109 29 = iP 31 (fIld 6) := rfl
theorem k109_31 : lkp pt109 31 = iW 34 (ptI 32) := rfl
theorem k109_34 : lkp pt109 34 = iRet rV := rfl
theorem b109_0 {G : AG} (hG : FIX G) (x0 : Nat) (x1 : Int64) (x3 : Int64) (x5 : Nat) (x6 : Int32) (H : Hp) : G 109 0 [some (.inr (.inr x0)), some (.inr (.inl x1)), none, some (.inr (.inl x3)), none, some (.inr (.inr x5)), some (.inl x6)] [] H = ((hgR H x0 29).bind fun r1 => (G 73 0 [some (.inr (.inr r1)), some (.inr (.inl 0)), none, none, none] [] H).bind fun u2 => (asV u2.1).bind fun _ => (hgR u2.2 x0 29).bind fun r3 => (hSJ u2.2 r3 0 x1).bind fun H4 => (hgR H4 x0 29).bind fun r5 => (hSJ H4 r5 1 x3).bind fun H6 => (hpR H6 x0 31 x5).bind fun H7 => (hpI H7 x0 32 x6).bind fun H8 => some (none, H8)) := by
  refine Eq.trans (e1 hG PT_109 k109_0 _ _ _) ?_
  show G 109 1 [some (.inr (.inr x0)), some (.inr (.inl x1)), none, some (.inr (.inl x3)), none, some (.inr (.inr x5)), some (.inl x6)] [.inr (.inr x0)] H = _
  refine Eq.trans (e1 hG PT_109 k109_1 _ _ _) ?_
  refine bdc fun r1 => ?_
  show G 109 4 [some (.inr (.inr x0)), some (.inr (.inl x1)), none, some (.inr (.inl x3)), none, some (.inr (.inr x5)), some (.inl x6)] [.inr (.inr r1)] H = _
  refine Eq.trans (e1 hG PT_109 k109_4 _ _ _) ?_
  show G 109 5 [some (.inr (.inr x0)), some (.inr (.inl x1)), none, some (.inr (.inl x3)), none, some (.inr (.inr x5)), some (.inl x6)] [.inr (.inl 0), .inr (.inr r1)] H = _
  refine Eq.trans (e1 hG PT_109 k109_5 _ _ _) ?_
  refine bdc fun u2 => ?_
  refine bdc fun _ => ?_
  show G 109 8 [some (.inr (.inr x0)), some (.inr (.inl x1)), none, some (.inr (.inl x3)), none, some (.inr (.inr x5)), some (.inl x6)] [] u2.2 = _
  refine Eq.trans (e1 hG PT_109 k109_8 _ _ _) ?_
  show G 109 9 [some (.inr (.inr x0)), some (.inr (.inl x1)), none, some (.inr (.inl x3)), none, some (.inr (.inr x5)), some (.inl x6)] [.inr (.inr x0)] u2.2 = _
  refine Eq.trans (e1 hG PT_109 k109_9 _ _ _) ?_
  refine bdc fun r3 => ?_
  show G 109 12 [some (.inr (.inr x0)), some (.inr (.inl x1)), none, some (.inr (.inl x3)), none, some (.inr (.inr x5)), some (.inl x6)] [.inr (.inr r3)] u2.2 = _
  refine Eq.trans (e1 hG PT_109 k109_12 _ _ _) ?_
  show G 109 13 [some (.inr (.inr x0)), some (.inr (.inl x1)), none, some (.inr (.inl x3)), none, some (.inr (.inr x5)), some (.inl x6)] [.inl 0, .inr (.inr r3)] u2.2 = _
  refine Eq.trans (e1 hG PT_109 k109_13 _ _ _) ?_
  show G 109 14 [some (.inr (.inr x0)), some (.inr (.inl x1)), none, some (.inr (.inl x3)), none, some (.inr (.inr x5)), some (.inl x6)] [.inr (.inl x1), .inl 0, .inr (.inr r3)] u2.2 = _
  refine Eq.trans (e1 hG PT_109 k109_14 _ _ _) ?_
  refine bdc fun H4 => ?_
  show G 109 15 [some (.inr (.inr x0)), some (.inr (.inl x1)), none, some (.inr (.inl x3)), none, some (.inr (.inr x5)), some (.inl x6)] [] H4 = _
  refine Eq.trans (e1 hG PT_109 k109_15 _ _ _) ?_
  show G 109 16 [some (.inr (.inr x0)), some (.inr (.inl x1)), none, some (.inr (.inl x3)), none, some (.inr (.inr x5)), some (.inl x6)] [.inr (.inr x0)] H4 = _
  refine Eq.trans (e1 hG PT_109 k109_16 _ _ _) ?_
  refine bdc fun r5 => ?_
  show G 109 19 [some (.inr (.inr x0)), some (.inr (.inl x1)), none, some (.inr (.inl x3)), none, some (.inr (.inr x5)), some (.inl x6)] [.inr (.inr r5)] H4 = _
  refine Eq.trans (e1 hG PT_109 k109_19 _ _ _) ?_
  show G 109 20 [some (.inr (.inr x0)), some (.inr (.inl x1)), none, some (.inr (.inl x3)), none, some (.inr (.inr x5)), some (.inl x6)] [.inl 1, .inr (.inr r5)] H4 = _
  refine Eq.trans (e1 hG PT_109 k109_20 _ _ _) ?_
  show G 109 21 [some (.inr (.inr x0)), some (.inr (.inl x1)), none, some (.inr (.inl x3)), none, some (.inr (.inr x5)), some (.inl x6)] [.inr (.inl x3), .inl 1, .inr (.inr r5)] H4 = _
  refine Eq.trans (e1 hG PT_109 k109_21 _ _ _) ?_
  refine bdc fun H6 => ?_
  show G 109 22 [some (.inr (.inr x0)), some (.inr (.inl x1)), none, some (.inr (.inl x3)), none, some (.inr (.inr x5)), some (.inl x6)] [] H6 = _
  refine Eq.trans (e1 hG PT_109 k109_22 _ _ _) ?_
  show G 109 23 [some (.inr (.inr x0)), some (.inr (.inl x1)), none, some (.inr (.inl x3)), none, some (.inr (.inr x5)), some (.inl x6)] [.inr (.inr x0)] H6 = _
  refine Eq.trans (e1 hG PT_109 k109_23 _ _ _) ?_
  show G 109 25 [some (.inr (.inr x0)), some (.inr (.inl x1)), none, some (.inr (.inl x3)), none, some (.inr (.inr x5)), some (.inl x6)] [.inr (.inr x5), .inr (.inr x0)] H6 = _
  refine Eq.trans (e1 hG PT_109 k109_25 _ _ _) ?_
  refine bdc fun H7 => ?_
  show G 109 28 [some (.inr (.inr x0)), some (.inr (.inl x1)), none, some (.inr (.inl x3)), none, some (.inr (.inr x5)), some (.inl x6)] [] H7 = _
  refine Eq.trans (e1 hG PT_109 k109_28 _ _ _) ?_
  show G 109 29 [some (.inr (.inr x0)), some (.inr (.inl x1)), none, some (.inr (.inl x3)), none, some (.inr (.inr x5)), some (.inl x6)] [.inr (.inr x0)] H7 = _
  refine Eq.trans (e1 hG PT_109 k109_29 _ _ _) ?_
  show G 109 31 [some (.inr (.inr x0)), some (.inr (.inl x1)), none, some (.inr (.inl x3)), none, some (.inr (.inr x5)), some (.inl x6)] [.inl x6, .inr (.inr x0)] H7 = _
  refine Eq.trans (e1 hG PT_109 k109_31 _ _ _) ?_
  refine bdc fun H8 => ?_
  show G 109 34 [some (.inr (.inr x0)), some (.inr (.inl x1)), none, some (.inr (.inl x3)), none, some (.inr (.inr x5)), some (.inl x6)] [] H8 = _
  exact e1 hG PT_109 k109_34 _ _ _
-- StepsAhead$Runner.pass(LStepsAhead$Routine;)V
theorem PT_110 : PT 110 = pt110 := rfl
theorem k110_0 : lkp pt110 0 = iP 1 (fAld 1) := rfl
theorem k110_1 : lkp pt110 1 = iP 2 (fAld 0) := rfl
theorem k110_2 : lkp pt110 2 = iRI 5 (gtI 39) := rfl
theorem k110_5 : lkp pt110 5 = iCK 8 7 18 2 2 3 := rfl
theorem k110_8 : lkp pt110 8 = iP 9 (fAst 2) := rfl
theorem k110_9 : lkp pt110 9 = iP 10 (fAld 2) := rfl
theorem k110_10 : lkp pt110 10 = iB 13 32 bNN := rfl
theorem k110_13 : lkp pt110 13 = iP 14 (fAld 0) := rfl
theorem k110_14 : lkp pt110 14 = iP 15 (fAld 1) := rfl
theorem k110_15 : lkp pt110 15 = iRI 18 (gtI 32) := rfl
theorem k110_18 : lkp pt110 18 = iW 21 (ptI 39) := rfl
theorem k110_21 : lkp pt110 21 = iP 22 (fAld 0) := rfl
theorem k110_22 : lkp pt110 22 = iP 23 (fAld 1) := rfl
theorem k110_23 : lkp pt110 23 = iRR 26 (gtR 31) := rfl
theorem k110_26 : lkp pt110 26 = iW 29 (ptR 38) := rfl
theorem k110_29 : lkp pt110 29 = iP 167 fGo := rfl
theorem k110_32 : lkp pt110 32 = iP 33 (fAld 2) := rfl
theorem k110_33 : lkp pt110 33 = iRI 36 (qInst [10] [1, 2, 3, 4]) := rfl
theorem k110_36 : lkp pt110 36 = iB 39 70 (b1 (fun x => decide (x = 0))) := rfl
theorem k110_39 : lkp pt110 39 = iP 40 (fAld 2) := rfl
theorem k110_40 : lkp pt110 40 = iRR 43 (qCast [10]) := rfl
theorem k110_43 : lkp pt110 43 = iP 44 (fAst 3) := rfl
theorem k110_44 : lkp pt110 44 = iP 45 (fAld 0) := rfl
theorem k110_45 : lkp pt110 45 = iP 46 fDup := rfl
theorem k110_46 : lkp pt110 46 = iRI 49 (gtI 35) := rfl
theorem k110_49 : lkp pt110 49 = iP 50 (fAld 3) := rfl
theorem k110_50 : lkp pt110 50 = iRI 53 (gtI 42) := rfl
theorem k110_53 : lkp pt110 53 = iP 54 (f2I (fun x y => x + y)) := rfl
theorem k110_54 : lkp pt110 54 = iW 57 (ptI 35) := rfl
theorem k110_57 : lkp pt110 57 = iP 58 (fAld 0) := rfl
theorem k110_58 : lkp pt110 58 = iP 59 fDup := rfl
theorem k110_59 : lkp pt110 59 = iRI 62 (gtI 39) := rfl
theorem k110_62 : lkp pt110 62 = iP 63 (fK (.inl 1)) := rfl
theorem k110_63 : lkp pt110 63 = iP 64 (f2I (fun x y => x + y)) := rfl
theorem k110_64 : lkp pt110 64 = iW 67 (ptI 39) := rfl
theorem k110_67 : lkp pt110 67 = iP 167 fGo := rfl
theorem k110_70 : lkp pt110 70 = iP 71 (fAld 2) := rfl
theorem k110_71 : lkp pt110 71 = iRI 74 (qInst [3] [1, 2, 4, 10]) := rfl
theorem k110_74 : lkp pt110 74 = iB 77 108 (b1 (fun x => decide (x = 0))) := rfl
theorem k110_77 : lkp pt110 77 = iP 78 (fAld 2) := rfl
theorem k110_78 : lkp pt110 78 = iRR 81 (qCast [3]) := rfl
theorem k110_81 : lkp pt110 81 = iP 83 (fAst 4) := rfl
theorem k110_83 : lkp pt110 83 = iP 84 (fAld 1) := rfl
theorem k110_84 : lkp pt110 84 = iP 86 (fAld 4) := rfl
theorem k110_86 : lkp pt110 86 = iP 87 (fAld 1) := rfl
theorem k110_87 : lkp pt110 87 = iP 89 (fAld 4) := rfl
theorem k110_89 : lkp pt110 89 = iRR 92 (gtR 0) := rfl
theorem k110_92 : lkp pt110 92 = iCK 95 7 111 5 2 2 := rfl
theorem k110_95 : lkp pt110 95 = iCK 98 7 112 5 3 0 := rfl
theorem k110_98 : lkp pt110 98 = iP 99 (fAld 0) := rfl
theorem k110_99 : lkp pt110 99 = iP 100 (fAld 1) := rfl
theorem k110_100 : lkp pt110 100 = iP 102 (fAld 4) := rfl
theorem k110_102 : lkp pt110 102 = iCK 105 8 113 5 3 0 := rfl
theorem k110_105 : lkp pt110 105 = iP 167 fGo := rfl
theorem k110_108 : lkp pt110 108 = iP 109 (fAld 2) := rfl
theorem k110_109 : lkp pt110 109 = iRI 112 (qInst [1] [2, 3, 4, 10]) := rfl
theorem k110_112 : lkp pt110 112 = iB 115 131 (b1 (fun x => decide (x = 0))) := rfl
theorem k110_115 : lkp pt110 115 = iP 116 (fAld 2) := rfl
theorem k110_116 : lkp pt110 116 = iRR 119 (qCast [1]) := rfl
theorem k110_119 : lkp pt110 119 = iP 121 (fAst 5) := rfl
theorem k110_121 : lkp pt110 121 = iP 122 (fAld 0) := rfl
theorem k110_122 : lkp pt110 122 = iP 123 (fAld 1) := rfl
theorem k110_123 : lkp pt110 123 = iP 125 (fAld 5) := rfl
theorem k110_125 : lkp pt110 125 = iCK 128 8 117 3 3 0 := rfl
theorem k110_128 : lkp pt110 128 = iP 167 fGo := rfl
theorem k110_131 : lkp pt110 131 = iP 132 (fAld 2) := rfl
theorem k110_132 : lkp pt110 132 = iRI 135 (qInst [2] [1, 3, 4, 10]) := rfl
theorem k110_135 : lkp pt110 135 = iB 138 153 (b1 (fun x => decide (x = 0))) := rfl
theorem k110_138 : lkp pt110 138 = iP 139 (fAld 2) := rfl
theorem k110_139 : lkp pt110 139 = iRR 142 (qCast [2]) := rfl
theorem k110_142 : lkp pt110 142 = iP 144 (fAst 6) := rfl
theorem k110_144 : lkp pt110 144 = iP 145 (fAld 0) := rfl
theorem k110_145 : lkp pt110 145 = iP 147 (fAld 6) := rfl
theorem k110_147 : lkp pt110 147 = iCK 150 8 118 2 2 0 := rfl
theorem k110_150 : lkp pt110 150 = iP 167 fGo := rfl
theorem k110_153 : lkp pt110 153 = iP 154 (fAld 0) := rfl
theorem k110_154 : lkp pt110 154 = iP 155 (fAld 1) := rfl
theorem k110_155 : lkp pt110 155 = iP 156 (fAld 2) := rfl
theorem k110_156 : lkp pt110 156 = iP 157 (fAld 1) := rfl
theorem k110_157 : lkp pt110 157 = iP 158 (fAld 2) := rfl
theorem k110_158 : lkp pt110 158 = iRI 161 (gtI 4) := rfl
theorem k110_161 : lkp pt110 161 = iCK 164 7 18 2 2 3 := rfl
theorem k110_164 : lkp pt110 164 = iCK 167 8 121 7 4 0 := rfl
theorem k110_167 : lkp pt110 167 = iRet rV := rfl
theorem b110_0 {G : AG} (hG : FIX G) (x0 : Nat) (x1 : Nat) (H : Hp) : G 110 0 [some (.inr (.inr x0)), some (.inr (.inr x1)), none, none, none, none, none] [] H = ((hgI H x0 39).bind fun i1 => bif Nat.beq (H.1 x1).1 7 then (G 18 0 [some (.inr (.inr x1)), some (.inl i1)] [] H).bind fun u2 => (asR u2.1).bind fun r3 => bif !(Nat.beq r3 0) then ((bif Nat.beq r3 0 then some (0 : Int32) else bif [10].any (Nat.beq (u2.2.1 r3).1) then some 1 else bif [1, 2, 3, 4].any (Nat.beq (u2.2.1 r3).1) then some 0 else none)).bind fun i4 => bif decide ((i4 : Int32) = 0) then ((bif Nat.beq r3 0 then some (0 : Int32) else bif [3].any (Nat.beq (u2.2.1 r3).1) then some 1 else bif [1, 2, 4, 10].any (Nat.beq (u2.2.1 r3).1) then some 0 else none)).bind fun i5 => bif decide ((i5 : Int32) = 0) then ((bif Nat.beq r3 0 then some (0 : Int32) else bif [1].any (Nat.beq (u2.2.1 r3).1) then some 1 else bif [2, 3, 4, 10].any (Nat.beq (u2.2.1 r3).1) then some 0 else none)).bind fun i6 => bif decide ((i6 : Int32) = 0) then ((bif Nat.beq r3 0 then some (0 : Int32) else bif [2].any (Nat.beq (u2.2.1 r3).1) then some 1 else bif [1, 3, 4, 10].any (Nat.beq (u2.2.1 r3).1) then some 0 else none)).bind fun i7 => bif decide ((i7 : Int32) = 0) then (hgI u2.2 r3 4).bind fun i8 => bif Nat.beq (u2.2.1 x1).1 7 then (G 18 0 [some (.inr (.inr x1)), some (.inl i8)] [] u2.2).bind fun u9 => (asR u9.1).bind fun r10 => bif Nat.beq (u9.2.1 x0).1 8 then (G 121 0 [some (.inr (.inr x0)), some (.inr (.inr x1)), some (.inr (.inr r3)), some (.inr (.inr r10)), none, none, none] [] u9.2).bind fun u11 => (asV u11.1).bind fun _ => G 110 167 [some (.inr (.inr x0)), some (.inr (.inr x1)), some (.inr (.inr r3)), none, none, none, none] [] u11.2 else none else none else ((bif Nat.beq r3 0 || [2].any (Nat.beq (u2.2.1 r3).1) then some r3 else none)).bind fun r12 => bif Nat.beq (u2.2.1 x0).1 8 then (G 118 0 [some (.inr (.inr x0)), some (.inr (.inr r12))] [] u2.2).bind fun u13 => (asV u13.1).bind fun _ => G 110 167 [some (.inr (.inr x0)), some (.inr (.inr x1)), some (.inr (.inr r3)), none, none, none, some (.inr (.inr r12))] [] u13.2 else none else ((bif Nat.beq r3 0 || [1].any (Nat.beq (u2.2.1 r3).1) then some r3 else none)).bind fun r14 => bif Nat.beq (u2.2.1 x0).1 8 then (G 117 0 [some (.inr (.inr x0)), some (.inr (.inr x1)), some (.inr (.inr r14))] [] u2.2).bind fun u15 => (asV u15.1).bind fun _ => G 110 167 [some (.inr (.inr x0)), some (.inr (.inr x1)), some (.inr (.inr r3)), none, none, some (.inr (.inr r14)), none] [] u15.2 else none else ((bif Nat.beq r3 0 || [3].any (Nat.beq (u2.2.1 r3).1) then some r3 else none)).bind fun r16 => (hgR u2.2 r16 0).bind fun r17 => bif Nat.beq (u2.2.1 x1).1 7 then (G 111 0 [some (.inr (.inr x1)), some (.inr (.inr r17)), none, none, none] [] u2.2).bind fun u18 => (asJ u18.1).bind fun j19 => bif Nat.beq (u18.2.1 x1).1 7 then (G 112 0 [some (.inr (.inr x1)), some (.inr (.inr r16)), some (.inr (.inl j19)), none, none] [] u18.2).bind fun u20 => (asV u20.1).bind fun _ => bif Nat.beq (u20.2.1 x0).1 8 then (G 113 0 [some (.inr (.inr x0)), some (.inr (.inr x1)), some (.inr (.inr r16)), none, none] [] u20.2).bind fun u21 => (asV u21.1).bind fun _ => G 110 167 [some (.inr (.inr x0)), some (.inr (.inr x1)), some (.inr (.inr r3)), none, some (.inr (.inr r16)), none, none] [] u21.2 else none else none else none else ((bif Nat.beq r3 0 || [10].any (Nat.beq (u2.2.1 r3).1) then some r3 else none)).bind fun r22 => (hgI u2.2 x0 35).bind fun i23 => (hgI u2.2 r22 42).bind fun i24 => (hpI u2.2 x0 35 ((i23 + i24))).bind fun H25 => (hgI H25 x0 39).bind fun i26 => (hpI H25 x0 39 ((i26 + 1))).bind fun H27 => G 110 167 [some (.inr (.inr x0)), some (.inr (.inr x1)), some (.inr (.inr r3)), some (.inr (.inr r22)), none, none, none] [] H27 else (hgI u2.2 x1 32).bind fun i28 => (hpI u2.2 x0 39 i28).bind fun H29 => (hgR H29 x1 31).bind fun r30 => (hpR H29 x0 38 r30).bind fun H31 => G 110 167 [some (.inr (.inr x0)), some (.inr (.inr x1)), some (.inr (.inr r3)), none, none, none, none] [] H31 else none) := by
  refine Eq.trans (e1 hG PT_110 k110_0 _ _ _) ?_
  show G 110 1 [some (.inr (.inr x0)), some (.inr (.inr x1)), none, none, none, none, none] [.inr (.inr x1)] H = _
  refine Eq.trans (e1 hG PT_110 k110_1 _ _ _) ?_
  show G 110 2 [some (.inr (.inr x0)), some (.inr (.inr x1)), none, none, none, none, none] [.inr (.inr x0), .inr (.inr x1)] H = _
  refine Eq.trans (e1 hG PT_110 k110_2 _ _ _) ?_
  refine bdc fun i1 => ?_
  show G 110 5 [some (.inr (.inr x0)), some (.inr (.inr x1)), none, none, none, none, none] [.inl i1, .inr (.inr x1)] H = _
  refine Eq.trans (e1 hG PT_110 k110_5 _ _ _) ?_
  refine bfc ?_ ?_
  · refine bdc fun u2 => ?_
    refine bdc fun r3 => ?_
    show G 110 8 [some (.inr (.inr x0)), some (.inr (.inr x1)), none, none, none, none, none] [.inr (.inr r3)] u2.2 = _
    refine Eq.trans (e1 hG PT_110 k110_8 _ _ _) ?_
    show G 110 9 [some (.inr (.inr x0)), some (.inr (.inr x1)), some (.inr (.inr r3)), none, none, none, none] [] u2.2 = _
    refine Eq.trans (e1 hG PT_110 k110_9 _ _ _) ?_
    show G 110 10 [some (.inr (.inr x0)), some (.inr (.inr x1)), some (.inr (.inr r3)), none, none, none, none] [.inr (.inr r3)] u2.2 = _
    refine Eq.trans (e1 hG PT_110 k110_10 _ _ _) ?_
    refine bfc ?_ ?_
    · show G 110 32 [some (.inr (.inr x0)), some (.inr (.inr x1)), some (.inr (.inr r3)), none, none, none, none] [] u2.2 = _
      refine Eq.trans (e1 hG PT_110 k110_32 _ _ _) ?_
      show G 110 33 [some (.inr (.inr x0)), some (.inr (.inr x1)), some (.inr (.inr r3)), none, none, none, none] [.inr (.inr r3)] u2.2 = _
      refine Eq.trans (e1 hG PT_110 k110_33 _ _ _) ?_
      refine bdc fun i4 => ?_
      show G 110 36 [some (.inr (.inr x0)), some (.inr (.inr x1)), some (.inr (.inr r3)), none, none, none, none] [.inl i4] u2.2 = _
      refine Eq.trans (e1 hG PT_110 k110_36 _ _ _) ?_
      refine bfc ?_ ?_
      · show G 110 70 [some (.inr (.inr x0)), some (.inr (.inr x1)), some (.inr (.inr r3)), none, none, none, none] [] u2.2 = _
        refine Eq.trans (e1 hG PT_110 k110_70 _ _ _) ?_
        show G 110 71 [some (.inr (.inr x0)), some (.inr (.inr x1)), some (.inr (.inr r3)), none, none, none, none] [.inr (.inr r3)] u2.2 = _
        refine Eq.trans (e1 hG PT_110 k110_71 _ _ _) ?_
        refine bdc fun i5 => ?_
        show G 110 74 [some (.inr (.inr x0)), some (.inr (.inr x1)), some (.inr (.inr r3)), none, none, none, none] [.inl i5] u2.2 = _
        refine Eq.trans (e1 hG PT_110 k110_74 _ _ _) ?_
        refine bfc ?_ ?_
        · show G 110 108 [some (.inr (.inr x0)), some (.inr (.inr x1)), some (.inr (.inr r3)), none, none, none, none] [] u2.2 = _
          refine Eq.trans (e1 hG PT_110 k110_108 _ _ _) ?_
          show G 110 109 [some (.inr (.inr x0)), some (.inr (.inr x1)), some (.inr (.inr r3)), none, none, none, none] [.inr (.inr r3)] u2.2 = _
          refine Eq.trans (e1 hG PT_110 k110_109 _ _ _) ?_
          refine bdc fun i6 => ?_
          show G 110 112 [some (.inr (.inr x0)), some (.inr (.inr x1)), some (.inr (.inr r3)), none, none, none, none] [.inl i6] u2.2 = _
          refine Eq.trans (e1 hG PT_110 k110_112 _ _ _) ?_
          refine bfc ?_ ?_
          · show G 110 131 [some (.inr (.inr x0)), some (.inr (.inr x1)), some (.inr (.inr r3)), none, none, none, none] [] u2.2 = _
            refine Eq.trans (e1 hG PT_110 k110_131 _ _ _) ?_
            show G 110 132 [some (.inr (.inr x0)), some (.inr (.inr x1)), some (.inr (.inr r3)), none, none, none, none] [.inr (.inr r3)] u2.2 = _
            refine Eq.trans (e1 hG PT_110 k110_132 _ _ _) ?_
            refine bdc fun i7 => ?_
            show G 110 135 [some (.inr (.inr x0)), some (.inr (.inr x1)), some (.inr (.inr r3)), none, none, none, none] [.inl i7] u2.2 = _
            refine Eq.trans (e1 hG PT_110 k110_135 _ _ _) ?_
            refine bfc ?_ ?_
            · show G 110 153 [some (.inr (.inr x0)), some (.inr (.inr x1)), some (.inr (.inr r3)), none, none, none, none] [] u2.2 = _
              refine Eq.trans (e1 hG PT_110 k110_153 _ _ _) ?_
              show G 110 154 [some (.inr (.inr x0)), some (.inr (.inr x1)), some (.inr (.inr r3)), none, none, none, none] [.inr (.inr x0)] u2.2 = _
              refine Eq.trans (e1 hG PT_110 k110_154 _ _ _) ?_
              show G 110 155 [some (.inr (.inr x0)), some (.inr (.inr x1)), some (.inr (.inr r3)), none, none, none, none] [.inr (.inr x1), .inr (.inr x0)] u2.2 = _
              refine Eq.trans (e1 hG PT_110 k110_155 _ _ _) ?_
              show G 110 156 [some (.inr (.inr x0)), some (.inr (.inr x1)), some (.inr (.inr r3)), none, none, none, none] [.inr (.inr r3), .inr (.inr x1), .inr (.inr x0)] u2.2 = _
              refine Eq.trans (e1 hG PT_110 k110_156 _ _ _) ?_
              show G 110 157 [some (.inr (.inr x0)), some (.inr (.inr x1)), some (.inr (.inr r3)), none, none, none, none] [.inr (.inr x1), .inr (.inr r3), .inr (.inr x1), .inr (.inr x0)] u2.2 = _
              refine Eq.trans (e1 hG PT_110 k110_157 _ _ _) ?_
              show G 110 158 [some (.inr (.inr x0)), some (.inr (.inr x1)), some (.inr (.inr r3)), none, none, none, none] [.inr (.inr r3), .inr (.inr x1), .inr (.inr r3), .inr (.inr x1), .inr (.inr x0)] u2.2 = _
              refine Eq.trans (e1 hG PT_110 k110_158 _ _ _) ?_
              refine bdc fun i8 => ?_
              show G 110 161 [some (.inr (.inr x0)), some (.inr (.inr x1)), some (.inr (.inr r3)), none, none, none, none] [.inl i8, .inr (.inr x1), .inr (.inr r3), .inr (.inr x1), .inr (.inr x0)] u2.2 = _
              refine Eq.trans (e1 hG PT_110 k110_161 _ _ _) ?_
              refine bfc ?_ ?_
              · refine bdc fun u9 => ?_
                refine bdc fun r10 => ?_
                show G 110 164 [some (.inr (.inr x0)), some (.inr (.inr x1)), some (.inr (.inr r3)), none, none, none, none] [.inr (.inr r10), .inr (.inr r3), .inr (.inr x1), .inr (.inr x0)] u9.2 = _
                refine Eq.trans (e1 hG PT_110 k110_164 _ _ _) ?_
                refine bfc ?_ ?_
                · refine bdc fun u11 => ?_
                  refine bdc fun _ => ?_
                  rfl
                · rfl
              · rfl
            · show G 110 138 [some (.inr (.inr x0)), some (.inr (.inr x1)), some (.inr (.inr r3)), none, none, none, none] [] u2.2 = _
              refine Eq.trans (e1 hG PT_110 k110_138 _ _ _) ?_
              show G 110 139 [some (.inr (.inr x0)), some (.inr (.inr x1)), some (.inr (.inr r3)), none, none, none, none] [.inr (.inr r3)] u2.2 = _
              refine Eq.trans (e1 hG PT_110 k110_139 _ _ _) ?_
              refine bdc fun r12 => ?_
              show G 110 142 [some (.inr (.inr x0)), some (.inr (.inr x1)), some (.inr (.inr r3)), none, none, none, none] [.inr (.inr r12)] u2.2 = _
              refine Eq.trans (e1 hG PT_110 k110_142 _ _ _) ?_
              show G 110 144 [some (.inr (.inr x0)), some (.inr (.inr x1)), some (.inr (.inr r3)), none, none, none, some (.inr (.inr r12))] [] u2.2 = _
              refine Eq.trans (e1 hG PT_110 k110_144 _ _ _) ?_
              show G 110 145 [some (.inr (.inr x0)), some (.inr (.inr x1)), some (.inr (.inr r3)), none, none, none, some (.inr (.inr r12))] [.inr (.inr x0)] u2.2 = _
              refine Eq.trans (e1 hG PT_110 k110_145 _ _ _) ?_
              show G 110 147 [some (.inr (.inr x0)), some (.inr (.inr x1)), some (.inr (.inr r3)), none, none, none, some (.inr (.inr r12))] [.inr (.inr r12), .inr (.inr x0)] u2.2 = _
              refine Eq.trans (e1 hG PT_110 k110_147 _ _ _) ?_
              refine bfc ?_ ?_
              · refine bdc fun u13 => ?_
                refine bdc fun _ => ?_
                show G 110 150 [some (.inr (.inr x0)), some (.inr (.inr x1)), some (.inr (.inr r3)), none, none, none, some (.inr (.inr r12))] [] u13.2 = _
                refine Eq.trans (e1 hG PT_110 k110_150 _ _ _) ?_
                rfl
              · rfl
          · show G 110 115 [some (.inr (.inr x0)), some (.inr (.inr x1)), some (.inr (.inr r3)), none, none, none, none] [] u2.2 = _
            refine Eq.trans (e1 hG PT_110 k110_115 _ _ _) ?_
            show G 110 116 [some (.inr (.inr x0)), some (.inr (.inr x1)), some (.inr (.inr r3)), none, none, none, none] [.inr (.inr r3)] u2.2 = _
            refine Eq.trans (e1 hG PT_110 k110_116 _ _ _) ?_
            refine bdc fun r14 => ?_
            show G 110 119 [some (.inr (.inr x0)), some (.inr (.inr x1)), some (.inr (.inr r3)), none, none, none, none] [.inr (.inr r14)] u2.2 = _
            refine Eq.trans (e1 hG PT_110 k110_119 _ _ _) ?_
            show G 110 121 [some (.inr (.inr x0)), some (.inr (.inr x1)), some (.inr (.inr r3)), none, none, some (.inr (.inr r14)), none] [] u2.2 = _
            refine Eq.trans (e1 hG PT_110 k110_121 _ _ _) ?_
            show G 110 122 [some (.inr (.inr x0)), some (.inr (.inr x1)), some (.inr (.inr r3)), none, none, some (.inr (.inr r14)), none] [.inr (.inr x0)] u2.2 = _
            refine Eq.trans (e1 hG PT_110 k110_122 _ _ _) ?_
            show G 110 123 [some (.inr (.inr x0)), some (.inr (.inr x1)), some (.inr (.inr r3)), none, none, some (.inr (.inr r14)), none] [.inr (.inr x1), .inr (.inr x0)] u2.2 = _
            refine Eq.trans (e1 hG PT_110 k110_123 _ _ _) ?_
            show G 110 125 [some (.inr (.inr x0)), some (.inr (.inr x1)), some (.inr (.inr r3)), none, none, some (.inr (.inr r14)), none] [.inr (.inr r14), .inr (.inr x1), .inr (.inr x0)] u2.2 = _
            refine Eq.trans (e1 hG PT_110 k110_125 _ _ _) ?_
            refine bfc ?_ ?_
            · refine bdc fun u15 => ?_
              refine bdc fun _ => ?_
              show G 110 128 [some (.inr (.inr x0)), some (.inr (.inr x1)), some (.inr (.inr r3)), none, none, some (.inr (.inr r14)), none] [] u15.2 = _
              refine Eq.trans (e1 hG PT_110 k110_128 _ _ _) ?_
              rfl
            · rfl
        · show G 110 77 [some (.inr (.inr x0)), some (.inr (.inr x1)), some (.inr (.inr r3)), none, none, none, none] [] u2.2 = _
          refine Eq.trans (e1 hG PT_110 k110_77 _ _ _) ?_
          show G 110 78 [some (.inr (.inr x0)), some (.inr (.inr x1)), some (.inr (.inr r3)), none, none, none, none] [.inr (.inr r3)] u2.2 = _
          refine Eq.trans (e1 hG PT_110 k110_78 _ _ _) ?_
          refine bdc fun r16 => ?_
          show G 110 81 [some (.inr (.inr x0)), some (.inr (.inr x1)), some (.inr (.inr r3)), none, none, none, none] [.inr (.inr r16)] u2.2 = _
          refine Eq.trans (e1 hG PT_110 k110_81 _ _ _) ?_
          show G 110 83 [some (.inr (.inr x0)), some (.inr (.inr x1)), some (.inr (.inr r3)), none, some (.inr (.inr r16)), none, none] [] u2.2 = _
          refine Eq.trans (e1 hG PT_110 k110_83 _ _ _) ?_
          show G 110 84 [some (.inr (.inr x0)), some (.inr (.inr x1)), some (.inr (.inr r3)), none, some (.inr (.inr r16)), none, none] [.inr (.inr x1)] u2.2 = _
          refine Eq.trans (e1 hG PT_110 k110_84 _ _ _) ?_
          show G 110 86 [some (.inr (.inr x0)), some (.inr (.inr x1)), some (.inr (.inr r3)), none, some (.inr (.inr r16)), none, none] [.inr (.inr r16), .inr (.inr x1)] u2.2 = _
          refine Eq.trans (e1 hG PT_110 k110_86 _ _ _) ?_
          show G 110 87 [some (.inr (.inr x0)), some (.inr (.inr x1)), some (.inr (.inr r3)), none, some (.inr (.inr r16)), none, none] [.inr (.inr x1), .inr (.inr r16), .inr (.inr x1)] u2.2 = _
          refine Eq.trans (e1 hG PT_110 k110_87 _ _ _) ?_
          show G 110 89 [some (.inr (.inr x0)), some (.inr (.inr x1)), some (.inr (.inr r3)), none, some (.inr (.inr r16)), none, none] [.inr (.inr r16), .inr (.inr x1), .inr (.inr r16), .inr (.inr x1)] u2.2 = _
          refine Eq.trans (e1 hG PT_110 k110_89 _ _ _) ?_
          refine bdc fun r17 => ?_
          show G 110 92 [some (.inr (.inr x0)), some (.inr (.inr x1)), some (.inr (.inr r3)), none, some (.inr (.inr r16)), none, none] [.inr (.inr r17), .inr (.inr x1), .inr (.inr r16), .inr (.inr x1)] u2.2 = _
          refine Eq.trans (e1 hG PT_110 k110_92 _ _ _) ?_
          refine bfc ?_ ?_
          · refine bdc fun u18 => ?_
            refine bdc fun j19 => ?_
            show G 110 95 [some (.inr (.inr x0)), some (.inr (.inr x1)), some (.inr (.inr r3)), none, some (.inr (.inr r16)), none, none] [.inr (.inl j19), .inr (.inr r16), .inr (.inr x1)] u18.2 = _
            refine Eq.trans (e1 hG PT_110 k110_95 _ _ _) ?_
            refine bfc ?_ ?_
            · refine bdc fun u20 => ?_
              refine bdc fun _ => ?_
              show G 110 98 [some (.inr (.inr x0)), some (.inr (.inr x1)), some (.inr (.inr r3)), none, some (.inr (.inr r16)), none, none] [] u20.2 = _
              refine Eq.trans (e1 hG PT_110 k110_98 _ _ _) ?_
              show G 110 99 [some (.inr (.inr x0)), some (.inr (.inr x1)), some (.inr (.inr r3)), none, some (.inr (.inr r16)), none, none] [.inr (.inr x0)] u20.2 = _
              refine Eq.trans (e1 hG PT_110 k110_99 _ _ _) ?_
              show G 110 100 [some (.inr (.inr x0)), some (.inr (.inr x1)), some (.inr (.inr r3)), none, some (.inr (.inr r16)), none, none] [.inr (.inr x1), .inr (.inr x0)] u20.2 = _
              refine Eq.trans (e1 hG PT_110 k110_100 _ _ _) ?_
              show G 110 102 [some (.inr (.inr x0)), some (.inr (.inr x1)), some (.inr (.inr r3)), none, some (.inr (.inr r16)), none, none] [.inr (.inr r16), .inr (.inr x1), .inr (.inr x0)] u20.2 = _
              refine Eq.trans (e1 hG PT_110 k110_102 _ _ _) ?_
              refine bfc ?_ ?_
              · refine bdc fun u21 => ?_
                refine bdc fun _ => ?_
                show G 110 105 [some (.inr (.inr x0)), some (.inr (.inr x1)), some (.inr (.inr r3)), none, some (.inr (.inr r16)), none, none] [] u21.2 = _
                refine Eq.trans (e1 hG PT_110 k110_105 _ _ _) ?_
                rfl
              · rfl
            · rfl
          · rfl
      · show G 110 39 [some (.inr (.inr x0)), some (.inr (.inr x1)), some (.inr (.inr r3)), none, none, none, none] [] u2.2 = _
        refine Eq.trans (e1 hG PT_110 k110_39 _ _ _) ?_
        show G 110 40 [some (.inr (.inr x0)), some (.inr (.inr x1)), some (.inr (.inr r3)), none, none, none, none] [.inr (.inr r3)] u2.2 = _
        refine Eq.trans (e1 hG PT_110 k110_40 _ _ _) ?_
        refine bdc fun r22 => ?_
        show G 110 43 [some (.inr (.inr x0)), some (.inr (.inr x1)), some (.inr (.inr r3)), none, none, none, none] [.inr (.inr r22)] u2.2 = _
        refine Eq.trans (e1 hG PT_110 k110_43 _ _ _) ?_
        show G 110 44 [some (.inr (.inr x0)), some (.inr (.inr x1)), some (.inr (.inr r3)), some (.inr (.inr r22)), none, none, none] [] u2.2 = _
        refine Eq.trans (e1 hG PT_110 k110_44 _ _ _) ?_
        show G 110 45 [some (.inr (.inr x0)), some (.inr (.inr x1)), some (.inr (.inr r3)), some (.inr (.inr r22)), none, none, none] [.inr (.inr x0)] u2.2 = _
        refine Eq.trans (e1 hG PT_110 k110_45 _ _ _) ?_
        show G 110 46 [some (.inr (.inr x0)), some (.inr (.inr x1)), some (.inr (.inr r3)), some (.inr (.inr r22)), none, none, none] [.inr (.inr x0), .inr (.inr x0)] u2.2 = _
        refine Eq.trans (e1 hG PT_110 k110_46 _ _ _) ?_
        refine bdc fun i23 => ?_
        show G 110 49 [some (.inr (.inr x0)), some (.inr (.inr x1)), some (.inr (.inr r3)), some (.inr (.inr r22)), none, none, none] [.inl i23, .inr (.inr x0)] u2.2 = _
        refine Eq.trans (e1 hG PT_110 k110_49 _ _ _) ?_
        show G 110 50 [some (.inr (.inr x0)), some (.inr (.inr x1)), some (.inr (.inr r3)), some (.inr (.inr r22)), none, none, none] [.inr (.inr r22), .inl i23, .inr (.inr x0)] u2.2 = _
        refine Eq.trans (e1 hG PT_110 k110_50 _ _ _) ?_
        refine bdc fun i24 => ?_
        show G 110 53 [some (.inr (.inr x0)), some (.inr (.inr x1)), some (.inr (.inr r3)), some (.inr (.inr r22)), none, none, none] [.inl i24, .inl i23, .inr (.inr x0)] u2.2 = _
        refine Eq.trans (e1 hG PT_110 k110_53 _ _ _) ?_
        show G 110 54 [some (.inr (.inr x0)), some (.inr (.inr x1)), some (.inr (.inr r3)), some (.inr (.inr r22)), none, none, none] [.inl (i23 + i24), .inr (.inr x0)] u2.2 = _
        refine Eq.trans (e1 hG PT_110 k110_54 _ _ _) ?_
        refine bdc fun H25 => ?_
        show G 110 57 [some (.inr (.inr x0)), some (.inr (.inr x1)), some (.inr (.inr r3)), some (.inr (.inr r22)), none, none, none] [] H25 = _
        refine Eq.trans (e1 hG PT_110 k110_57 _ _ _) ?_
        show G 110 58 [some (.inr (.inr x0)), some (.inr (.inr x1)), some (.inr (.inr r3)), some (.inr (.inr r22)), none, none, none] [.inr (.inr x0)] H25 = _
        refine Eq.trans (e1 hG PT_110 k110_58 _ _ _) ?_
        show G 110 59 [some (.inr (.inr x0)), some (.inr (.inr x1)), some (.inr (.inr r3)), some (.inr (.inr r22)), none, none, none] [.inr (.inr x0), .inr (.inr x0)] H25 = _
        refine Eq.trans (e1 hG PT_110 k110_59 _ _ _) ?_
        refine bdc fun i26 => ?_
        show G 110 62 [some (.inr (.inr x0)), some (.inr (.inr x1)), some (.inr (.inr r3)), some (.inr (.inr r22)), none, none, none] [.inl i26, .inr (.inr x0)] H25 = _
        refine Eq.trans (e1 hG PT_110 k110_62 _ _ _) ?_
        show G 110 63 [some (.inr (.inr x0)), some (.inr (.inr x1)), some (.inr (.inr r3)), some (.inr (.inr r22)), none, none, none] [.inl 1, .inl i26, .inr (.inr x0)] H25 = _
        refine Eq.trans (e1 hG PT_110 k110_63 _ _ _) ?_
        show G 110 64 [some (.inr (.inr x0)), some (.inr (.inr x1)), some (.inr (.inr r3)), some (.inr (.inr r22)), none, none, none] [.inl (i26 + 1), .inr (.inr x0)] H25 = _
        refine Eq.trans (e1 hG PT_110 k110_64 _ _ _) ?_
        refine bdc fun H27 => ?_
        show G 110 67 [some (.inr (.inr x0)), some (.inr (.inr x1)), some (.inr (.inr r3)), some (.inr (.inr r22)), none, none, none] [] H27 = _
        refine Eq.trans (e1 hG PT_110 k110_67 _ _ _) ?_
        rfl
    · show G 110 13 [some (.inr (.inr x0)), some (.inr (.inr x1)), some (.inr (.inr r3)), none, none, none, none] [] u2.2 = _
      refine Eq.trans (e1 hG PT_110 k110_13 _ _ _) ?_
      show G 110 14 [some (.inr (.inr x0)), some (.inr (.inr x1)), some (.inr (.inr r3)), none, none, none, none] [.inr (.inr x0)] u2.2 = _
      refine Eq.trans (e1 hG PT_110 k110_14 _ _ _) ?_
      show G 110 15 [some (.inr (.inr x0)), some (.inr (.inr x1)), some (.inr (.inr r3)), none, none, none, none] [.inr (.inr x1), .inr (.inr x0)] u2.2 = _
      refine Eq.trans (e1 hG PT_110 k110_15 _ _ _) ?_
      refine bdc fun i28 => ?_
      show G 110 18 [some (.inr (.inr x0)), some (.inr (.inr x1)), some (.inr (.inr r3)), none, none, none, none] [.inl i28, .inr (.inr x0)] u2.2 = _
      refine Eq.trans (e1 hG PT_110 k110_18 _ _ _) ?_
      refine bdc fun H29 => ?_
      show G 110 21 [some (.inr (.inr x0)), some (.inr (.inr x1)), some (.inr (.inr r3)), none, none, none, none] [] H29 = _
      refine Eq.trans (e1 hG PT_110 k110_21 _ _ _) ?_
      show G 110 22 [some (.inr (.inr x0)), some (.inr (.inr x1)), some (.inr (.inr r3)), none, none, none, none] [.inr (.inr x0)] H29 = _
      refine Eq.trans (e1 hG PT_110 k110_22 _ _ _) ?_
      show G 110 23 [some (.inr (.inr x0)), some (.inr (.inr x1)), some (.inr (.inr r3)), none, none, none, none] [.inr (.inr x1), .inr (.inr x0)] H29 = _
      refine Eq.trans (e1 hG PT_110 k110_23 _ _ _) ?_
      refine bdc fun r30 => ?_
      show G 110 26 [some (.inr (.inr x0)), some (.inr (.inr x1)), some (.inr (.inr r3)), none, none, none, none] [.inr (.inr r30), .inr (.inr x0)] H29 = _
      refine Eq.trans (e1 hG PT_110 k110_26 _ _ _) ?_
      refine bdc fun H31 => ?_
      show G 110 29 [some (.inr (.inr x0)), some (.inr (.inr x1)), some (.inr (.inr r3)), none, none, none, none] [] H31 = _
      refine Eq.trans (e1 hG PT_110 k110_29 _ _ _) ?_
      rfl
  · rfl
theorem b110_167 {G : AG} (hG : FIX G) (x0 : Nat) (x1 : Nat) (x2 : Nat) (o3 : Option AV) (o4 : Option AV) (o5 : Option AV) (o6 : Option AV) (H : Hp) : G 110 167 [some (.inr (.inr x0)), some (.inr (.inr x1)), some (.inr (.inr x2)), o3, o4, o5, o6] [] H = (some (none, H)) := by
  exact e1 hG PT_110 k110_167 _ _ _
-- StepsAhead$Routine.valueNow([I)J
theorem PT_111 : PT 111 = pt111 := rfl
theorem k111_0 : lkp pt111 0 = iP 1 (fAld 1) := rfl
theorem k111_1 : lkp pt111 1 = iP 2 (fK (.inl 0)) := rfl
theorem k111_2 : lkp pt111 2 = iRI 3 qAI := rfl
theorem k111_3 : lkp pt111 3 = iP 4 fI2l := rfl
theorem k111_4 : lkp pt111 4 = iP 5 (fLst 2) := rfl
theorem k111_5 : lkp pt111 5 = iP 6 (fK (.inl 0)) := rfl
theorem k111_6 : lkp pt111 6 = iP 8 (fIst 4) := rfl
theorem k111_8 : lkp pt111 8 = iP 10 (fIld 4) := rfl
theorem k111_10 : lkp pt111 10 = iP 11 (fK (.inl 5)) := rfl
theorem k111_11 : lkp pt111 11 = iB 14 38 (b2 (fun x y => decide (y ≤ x))) := rfl
theorem k111_14 : lkp pt111 14 = iP 15 (fJld 2) := rfl
theorem k111_15 : lkp pt111 15 = iP 16 (fAld 1) := rfl
theorem k111_16 : lkp pt111 16 = iP 17 (fK (.inl 1)) := rfl
theorem k111_17 : lkp pt111 17 = iP 19 (fIld 4) := rfl
theorem k111_19 : lkp pt111 19 = iP 20 (f2I (fun x y => x + y)) := rfl
theorem k111_20 : lkp pt111 20 = iRI 21 qAI := rfl
theorem k111_21 : lkp pt111 21 = iP 22 fI2l := rfl
theorem k111_22 : lkp pt111 22 = iP 23 (fAld 0) := rfl
theorem k111_23 : lkp pt111 23 = iRR 26 (gtR 29) := rfl
theorem k111_26 : lkp pt111 26 = iP 28 (fIld 4) := rfl
theorem k111_28 : lkp pt111 28 = iRJ 29 qAJ := rfl
theorem k111_29 : lkp pt111 29 = iP 30 (f2J (fun x y => x * y)) := rfl
theorem k111_30 : lkp pt111 30 = iP 31 (f2J (fun x y => x + y)) := rfl
theorem k111_31 : lkp pt111 31 = iP 32 (fLst 2) := rfl
theorem k111_32 : lkp pt111 32 = iP 35 (fInc 4 1) := rfl
theorem k111_35 : lkp pt111 35 = iP 8 fGo := rfl
theorem k111_38 : lkp pt111 38 = iP 39 (fJld 2) := rfl
theorem k111_39 : lkp pt111 39 = iRet rJ := rfl
theorem b111_0 {G : AG} (hG : FIX G) (x0 : Nat) (x1 : Nat) (H : Hp) : G 111 0 [some (.inr (.inr x0)), some (.inr (.inr x1)), none, none, none] [] H = ((hAI H x1 0).bind fun i1 => G 111 8 [some (.inr (.inr x0)), some (.inr (.inr x1)), some (.inr (.inl i1.toInt64)), none, some (.inl 0)] [] H) := by
  refine Eq.trans (e1 hG PT_111 k111_0 _ _ _) ?_
  show G 111 1 [some (.inr (.inr x0)), some (.inr (.inr x1)), none, none, none] [.inr (.inr x1)] H = _
  refine Eq.trans (e1 hG PT_111 k111_1 _ _ _) ?_
  show G 111 2 [some (.inr (.inr x0)), some (.inr (.inr x1)), none, none, none] [.inl 0, .inr (.inr x1)] H = _
  refine Eq.trans (e1 hG PT_111 k111_2 _ _ _) ?_
  refine bdc fun i1 => ?_
  show G 111 3 [some (.inr (.inr x0)), some (.inr (.inr x1)), none, none, none] [.inl i1] H = _
  refine Eq.trans (e1 hG PT_111 k111_3 _ _ _) ?_
  show G 111 4 [some (.inr (.inr x0)), some (.inr (.inr x1)), none, none, none] [.inr (.inl i1.toInt64)] H = _
  refine Eq.trans (e1 hG PT_111 k111_4 _ _ _) ?_
  show G 111 5 [some (.inr (.inr x0)), some (.inr (.inr x1)), some (.inr (.inl i1.toInt64)), none, none] [] H = _
  refine Eq.trans (e1 hG PT_111 k111_5 _ _ _) ?_
  show G 111 6 [some (.inr (.inr x0)), some (.inr (.inr x1)), some (.inr (.inl i1.toInt64)), none, none] [.inl 0] H = _
  refine Eq.trans (e1 hG PT_111 k111_6 _ _ _) ?_
  rfl
theorem b111_8 {G : AG} (hG : FIX G) (x0 : Nat) (x1 : Nat) (x2 : Int64) (x4 : Int32) (H : Hp) : G 111 8 [some (.inr (.inr x0)), some (.inr (.inr x1)), some (.inr (.inl x2)), none, some (.inl x4)] [] H = (bif decide ((5 : Int32) ≤ (x4 : Int32)) then some (some (.inr (.inl x2)), H) else (hAI H x1 ((1 + x4))).bind fun i1 => (hgR H x0 29).bind fun r2 => (hAJ H r2 x4).bind fun j3 => G 111 8 [some (.inr (.inr x0)), some (.inr (.inr x1)), some (.inr (.inl (x2 + (i1.toInt64 * j3)))), none, some (.inl (x4 + 1))] [] H) := by
  refine Eq.trans (e1 hG PT_111 k111_8 _ _ _) ?_
  show G 111 10 [some (.inr (.inr x0)), some (.inr (.inr x1)), some (.inr (.inl x2)), none, some (.inl x4)] [.inl x4] H = _
  refine Eq.trans (e1 hG PT_111 k111_10 _ _ _) ?_
  show G 111 11 [some (.inr (.inr x0)), some (.inr (.inr x1)), some (.inr (.inl x2)), none, some (.inl x4)] [.inl 5, .inl x4] H = _
  refine Eq.trans (e1 hG PT_111 k111_11 _ _ _) ?_
  refine bfc ?_ ?_
  · show G 111 38 [some (.inr (.inr x0)), some (.inr (.inr x1)), some (.inr (.inl x2)), none, some (.inl x4)] [] H = _
    refine Eq.trans (e1 hG PT_111 k111_38 _ _ _) ?_
    show G 111 39 [some (.inr (.inr x0)), some (.inr (.inr x1)), some (.inr (.inl x2)), none, some (.inl x4)] [.inr (.inl x2)] H = _
    exact e1 hG PT_111 k111_39 _ _ _
  · show G 111 14 [some (.inr (.inr x0)), some (.inr (.inr x1)), some (.inr (.inl x2)), none, some (.inl x4)] [] H = _
    refine Eq.trans (e1 hG PT_111 k111_14 _ _ _) ?_
    show G 111 15 [some (.inr (.inr x0)), some (.inr (.inr x1)), some (.inr (.inl x2)), none, some (.inl x4)] [.inr (.inl x2)] H = _
    refine Eq.trans (e1 hG PT_111 k111_15 _ _ _) ?_
    show G 111 16 [some (.inr (.inr x0)), some (.inr (.inr x1)), some (.inr (.inl x2)), none, some (.inl x4)] [.inr (.inr x1), .inr (.inl x2)] H = _
    refine Eq.trans (e1 hG PT_111 k111_16 _ _ _) ?_
    show G 111 17 [some (.inr (.inr x0)), some (.inr (.inr x1)), some (.inr (.inl x2)), none, some (.inl x4)] [.inl 1, .inr (.inr x1), .inr (.inl x2)] H = _
    refine Eq.trans (e1 hG PT_111 k111_17 _ _ _) ?_
    show G 111 19 [some (.inr (.inr x0)), some (.inr (.inr x1)), some (.inr (.inl x2)), none, some (.inl x4)] [.inl x4, .inl 1, .inr (.inr x1), .inr (.inl x2)] H = _
    refine Eq.trans (e1 hG PT_111 k111_19 _ _ _) ?_
    show G 111 20 [some (.inr (.inr x0)), some (.inr (.inr x1)), some (.inr (.inl x2)), none, some (.inl x4)] [.inl (1 + x4), .inr (.inr x1), .inr (.inl x2)] H = _
    refine Eq.trans (e1 hG PT_111 k111_20 _ _ _) ?_
    refine bdc fun i1 => ?_
    show G 111 21 [some (.inr (.inr x0)), some (.inr (.inr x1)), some (.inr (.inl x2)), none, some (.inl x4)] [.inl i1, .inr (.inl x2)] H = _
    refine Eq.trans (e1 hG PT_111 k111_21 _ _ _) ?_
    show G 111 22 [some (.inr (.inr x0)), some (.inr (.inr x1)), some (.inr (.inl x2)), none, some (.inl x4)] [.inr (.inl i1.toInt64), .inr (.inl x2)] H = _
    refine Eq.trans (e1 hG PT_111 k111_22 _ _ _) ?_
    show G 111 23 [some (.inr (.inr x0)), some (.inr (.inr x1)), some (.inr (.inl x2)), none, some (.inl x4)] [.inr (.inr x0), .inr (.inl i1.toInt64), .inr (.inl x2)] H = _
    refine Eq.trans (e1 hG PT_111 k111_23 _ _ _) ?_
    refine bdc fun r2 => ?_
    show G 111 26 [some (.inr (.inr x0)), some (.inr (.inr x1)), some (.inr (.inl x2)), none, some (.inl x4)] [.inr (.inr r2), .inr (.inl i1.toInt64), .inr (.inl x2)] H = _
    refine Eq.trans (e1 hG PT_111 k111_26 _ _ _) ?_
    show G 111 28 [some (.inr (.inr x0)), some (.inr (.inr x1)), some (.inr (.inl x2)), none, some (.inl x4)] [.inl x4, .inr (.inr r2), .inr (.inl i1.toInt64), .inr (.inl x2)] H = _
    refine Eq.trans (e1 hG PT_111 k111_28 _ _ _) ?_
    refine bdc fun j3 => ?_
    show G 111 29 [some (.inr (.inr x0)), some (.inr (.inr x1)), some (.inr (.inl x2)), none, some (.inl x4)] [.inr (.inl j3), .inr (.inl i1.toInt64), .inr (.inl x2)] H = _
    refine Eq.trans (e1 hG PT_111 k111_29 _ _ _) ?_
    show G 111 30 [some (.inr (.inr x0)), some (.inr (.inr x1)), some (.inr (.inl x2)), none, some (.inl x4)] [.inr (.inl (i1.toInt64 * j3)), .inr (.inl x2)] H = _
    refine Eq.trans (e1 hG PT_111 k111_30 _ _ _) ?_
    show G 111 31 [some (.inr (.inr x0)), some (.inr (.inr x1)), some (.inr (.inl x2)), none, some (.inl x4)] [.inr (.inl (x2 + (i1.toInt64 * j3)))] H = _
    refine Eq.trans (e1 hG PT_111 k111_31 _ _ _) ?_
    show G 111 32 [some (.inr (.inr x0)), some (.inr (.inr x1)), some (.inr (.inl (x2 + (i1.toInt64 * j3)))), none, some (.inl x4)] [] H = _
    refine Eq.trans (e1 hG PT_111 k111_32 _ _ _) ?_
    show G 111 35 [some (.inr (.inr x0)), some (.inr (.inr x1)), some (.inr (.inl (x2 + (i1.toInt64 * j3)))), none, some (.inl (x4 + 1))] [] H = _
    refine Eq.trans (e1 hG PT_111 k111_35 _ _ _) ?_
    rfl
-- StepsAhead$Routine.setRounds(LStepsAhead$Loop;J)V
theorem PT_112 : PT 112 = pt112 := rfl
theorem k112_0 : lkp pt112 0 = iP 1 (fAld 1) := rfl
theorem k112_1 : lkp pt112 1 = iCK 4 3 90 1 1 1 := rfl
theorem k112_4 : lkp pt112 4 = iP 6 (fIst 4) := rfl
theorem k112_6 : lkp pt112 6 = iP 8 (fIld 4) := rfl
theorem k112_8 : lkp pt112 8 = iP 9 (fK (.inl 5)) := rfl
theorem k112_9 : lkp pt112 9 = iB 12 20 (b2 (fun x y => decide (y ≤ x))) := rfl
theorem k112_12 : lkp pt112 12 = iP 13 (fAld 0) := rfl
theorem k112_13 : lkp pt112 13 = iRR 16 (gtR 30) := rfl
theorem k112_16 : lkp pt112 16 = iP 18 (fIld 4) := rfl
theorem k112_18 : lkp pt112 18 = iP 19 (fJld 2) := rfl
theorem k112_19 : lkp pt112 19 = iW 20 wAJ := rfl
theorem k112_20 : lkp pt112 20 = iRet rV := rfl
theorem b112_0 {G : AG} (hG : FIX G) (x0 : Nat) (x1 : Nat) (x2 : Int64) (H : Hp) : G 112 0 [some (.inr (.inr x0)), some (.inr (.inr x1)), some (.inr (.inl x2)), none, none] [] H = (bif Nat.beq (H.1 x1).1 3 then (G 90 0 [some (.inr (.inr x1))] [] H).bind fun u1 => (asI u1.1).bind fun i2 => bif decide ((5 : Int32) ≤ (i2 : Int32)) then G 112 20 [some (.inr (.inr x0)), some (.inr (.inr x1)), some (.inr (.inl x2)), none, some (.inl i2)] [] u1.2 else (hgR u1.2 x0 30).bind fun r3 => (hSJ u1.2 r3 i2 x2).bind fun H4 => G 112 20 [some (.inr (.inr x0)), some (.inr (.inr x1)), some (.inr (.inl x2)), none, some (.inl i2)] [] H4 else none) := by
  refine Eq.trans (e1 hG PT_112 k112_0 _ _ _) ?_
  show G 112 1 [some (.inr (.inr x0)), some (.inr (.inr x1)), some (.inr (.inl x2)), none, none] [.inr (.inr x1)] H = _
  refine Eq.trans (e1 hG PT_112 k112_1 _ _ _) ?_
  refine bfc ?_ ?_
  · refine bdc fun u1 => ?_
    refine bdc fun i2 => ?_
    show G 112 4 [some (.inr (.inr x0)), some (.inr (.inr x1)), some (.inr (.inl x2)), none, none] [.inl i2] u1.2 = _
    refine Eq.trans (e1 hG PT_112 k112_4 _ _ _) ?_
    show G 112 6 [some (.inr (.inr x0)), some (.inr (.inr x1)), some (.inr (.inl x2)), none, some (.inl i2)] [] u1.2 = _
    refine Eq.trans (e1 hG PT_112 k112_6 _ _ _) ?_
    show G 112 8 [some (.inr (.inr x0)), some (.inr (.inr x1)), some (.inr (.inl x2)), none, some (.inl i2)] [.inl i2] u1.2 = _
    refine Eq.trans (e1 hG PT_112 k112_8 _ _ _) ?_
    show G 112 9 [some (.inr (.inr x0)), some (.inr (.inr x1)), some (.inr (.inl x2)), none, some (.inl i2)] [.inl 5, .inl i2] u1.2 = _
    refine Eq.trans (e1 hG PT_112 k112_9 _ _ _) ?_
    refine bfc ?_ ?_
    · rfl
    · show G 112 12 [some (.inr (.inr x0)), some (.inr (.inr x1)), some (.inr (.inl x2)), none, some (.inl i2)] [] u1.2 = _
      refine Eq.trans (e1 hG PT_112 k112_12 _ _ _) ?_
      show G 112 13 [some (.inr (.inr x0)), some (.inr (.inr x1)), some (.inr (.inl x2)), none, some (.inl i2)] [.inr (.inr x0)] u1.2 = _
      refine Eq.trans (e1 hG PT_112 k112_13 _ _ _) ?_
      refine bdc fun r3 => ?_
      show G 112 16 [some (.inr (.inr x0)), some (.inr (.inr x1)), some (.inr (.inl x2)), none, some (.inl i2)] [.inr (.inr r3)] u1.2 = _
      refine Eq.trans (e1 hG PT_112 k112_16 _ _ _) ?_
      show G 112 18 [some (.inr (.inr x0)), some (.inr (.inr x1)), some (.inr (.inl x2)), none, some (.inl i2)] [.inl i2, .inr (.inr r3)] u1.2 = _
      refine Eq.trans (e1 hG PT_112 k112_18 _ _ _) ?_
      show G 112 19 [some (.inr (.inr x0)), some (.inr (.inr x1)), some (.inr (.inl x2)), none, some (.inl i2)] [.inr (.inl x2), .inl i2, .inr (.inr r3)] u1.2 = _
      refine Eq.trans (e1 hG PT_112 k112_19 _ _ _) ?_
      refine bdc fun H4 => ?_
      rfl
  · rfl
theorem b112_20 {G : AG} (hG : FIX G) (x0 : Nat) (x1 : Nat) (x2 : Int64) (x4 : Int32) (H : Hp) : G 112 20 [some (.inr (.inr x0)), some (.inr (.inr x1)), some (.inr (.inl x2)), none, some (.inl x4)] [] H = (some (none, H)) := by
  exact e1 hG PT_112 k112_20 _ _ _
-- StepsAhead$Runner.goRound(LStepsAhead$Routine;LStepsAhead$Loop;)V
theorem PT_113 : PT 113 = pt113 := rfl
theorem k113_0 : lkp pt113 0 = iP 1 (fAld 1) := rfl
theorem k113_1 : lkp pt113 1 = iP 2 (fAld 2) := rfl
theorem k113_2 : lkp pt113 2 = iCK 5 7 114 3 2 2 := rfl
theorem k113_5 : lkp pt113 5 = iP 6 (fLst 3) := rfl
theorem k113_6 : lkp pt113 6 = iP 7 (fJld 3) := rfl
theorem k113_7 : lkp pt113 7 = iP 8 (fK (.inr (.inl 0))) := rfl
theorem k113_8 : lkp pt113 8 = iP 9 fLcmp := rfl
theorem k113_9 : lkp pt113 9 = iB 12 31 (b1 (fun x => decide (x ≠ 0))) := rfl
theorem k113_12 : lkp pt113 12 = iP 13 (fAld 1) := rfl
theorem k113_13 : lkp pt113 13 = iP 14 (fAld 2) := rfl
theorem k113_14 : lkp pt113 14 = iP 15 (fK (.inr (.inl 0))) := rfl
theorem k113_15 : lkp pt113 15 = iCK 18 7 115 5 3 0 := rfl
theorem k113_18 : lkp pt113 18 = iP 19 (fAld 0) := rfl
theorem k113_19 : lkp pt113 19 = iP 20 (fAld 2) := rfl
theorem k113_20 : lkp pt113 20 = iRI 23 (gtI 11) := rfl
theorem k113_23 : lkp pt113 23 = iP 24 (fK (.inl 1)) := rfl
theorem k113_24 : lkp pt113 24 = iP 25 (f2I (fun x y => x + y)) := rfl
theorem k113_25 : lkp pt113 25 = iW 28 (ptI 39) := rfl
theorem k113_28 : lkp pt113 28 = iP 54 fGo := rfl
theorem k113_31 : lkp pt113 31 = iP 32 (fAld 0) := rfl
theorem k113_32 : lkp pt113 32 = iCK 35 8 116 1 1 1 := rfl
theorem k113_35 : lkp pt113 35 = iB 38 54 (b1 (fun x => decide (x = 0))) := rfl
theorem k113_38 : lkp pt113 38 = iP 39 (fAld 1) := rfl
theorem k113_39 : lkp pt113 39 = iP 40 (fAld 2) := rfl
theorem k113_40 : lkp pt113 40 = iP 41 (fJld 3) := rfl
theorem k113_41 : lkp pt113 41 = iCK 44 7 115 5 3 0 := rfl
theorem k113_44 : lkp pt113 44 = iP 45 (fAld 0) := rfl
theorem k113_45 : lkp pt113 45 = iP 46 (fAld 2) := rfl
theorem k113_46 : lkp pt113 46 = iRI 49 (gtI 2) := rfl
theorem k113_49 : lkp pt113 49 = iP 50 (fK (.inl 1)) := rfl
theorem k113_50 : lkp pt113 50 = iP 51 (f2I (fun x y => x + y)) := rfl
theorem k113_51 : lkp pt113 51 = iW 54 (ptI 39) := rfl
theorem k113_54 : lkp pt113 54 = iRet rV := rfl
theorem b113_0 {G : AG} (hG : FIX G) (x0 : Nat) (x1 : Nat) (x2 : Nat) (H : Hp) : G 113 0 [some (.inr (.inr x0)), some (.inr (.inr x1)), some (.inr (.inr x2)), none, none] [] H = (bif Nat.beq (H.1 x1).1 7 then (G 114 0 [some (.inr (.inr x1)), some (.inr (.inr x2)), none] [] H).bind fun u1 => (asJ u1.1).bind fun j2 => bif decide (((lg_cmp j2 0) : Int32) ≠ 0) then bif Nat.beq (u1.2.1 x0).1 8 then (G 116 0 [some (.inr (.inr x0))] [] u1.2).bind fun u3 => (asI u3.1).bind fun i4 => bif decide ((i4 : Int32) = 0) then G 113 54 [some (.inr (.inr x0)), some (.inr (.inr x1)), some (.inr (.inr x2)), some (.inr (.inl j2)), none] [] u3.2 else bif Nat.beq (u3.2.1 x1).1 7 then (G 115 0 [some (.inr (.inr x1)), some (.inr (.inr x2)), some (.inr (.inl j2)), none, none] [] u3.2).bind fun u5 => (asV u5.1).bind fun _ => (hgI u5.2 x2 2).bind fun i6 => (hpI u5.2 x0 39 ((i6 + 1))).bind fun H7 => G 113 54 [some (.inr (.inr x0)), some (.inr (.inr x1)), some (.inr (.inr x2)), some (.inr (.inl j2)), none] [] H7 else none else none else bif Nat.beq (u1.2.1 x1).1 7 then (G 115 0 [some (.inr (.inr x1)), some (.inr (.inr x2)), some (.inr (.inl 0)), none, none] [] u1.2).bind fun u8 => (asV u8.1).bind fun _ => (hgI u8.2 x2 11).bind fun i9 => (hpI u8.2 x0 39 ((i9 + 1))).bind fun H10 => G 113 54 [some (.inr (.inr x0)), some (.inr (.inr x1)), some (.inr (.inr x2)), some (.inr (.inl j2)), none] [] H10 else none else none) := by
  refine Eq.trans (e1 hG PT_113 k113_0 _ _ _) ?_
  show G 113 1 [some (.inr (.inr x0)), some (.inr (.inr x1)), some (.inr (.inr x2)), none, none] [.inr (.inr x1)] H = _
  refine Eq.trans (e1 hG PT_113 k113_1 _ _ _) ?_
  show G 113 2 [some (.inr (.inr x0)), some (.inr (.inr x1)), some (.inr (.inr x2)), none, none] [.inr (.inr x2), .inr (.inr x1)] H = _
  refine Eq.trans (e1 hG PT_113 k113_2 _ _ _) ?_
  refine bfc ?_ ?_
  · refine bdc fun u1 => ?_
    refine bdc fun j2 => ?_
    show G 113 5 [some (.inr (.inr x0)), some (.inr (.inr x1)), some (.inr (.inr x2)), none, none] [.inr (.inl j2)] u1.2 = _
    refine Eq.trans (e1 hG PT_113 k113_5 _ _ _) ?_
    show G 113 6 [some (.inr (.inr x0)), some (.inr (.inr x1)), some (.inr (.inr x2)), some (.inr (.inl j2)), none] [] u1.2 = _
    refine Eq.trans (e1 hG PT_113 k113_6 _ _ _) ?_
    show G 113 7 [some (.inr (.inr x0)), some (.inr (.inr x1)), some (.inr (.inr x2)), some (.inr (.inl j2)), none] [.inr (.inl j2)] u1.2 = _
    refine Eq.trans (e1 hG PT_113 k113_7 _ _ _) ?_
    show G 113 8 [some (.inr (.inr x0)), some (.inr (.inr x1)), some (.inr (.inr x2)), some (.inr (.inl j2)), none] [.inr (.inl 0), .inr (.inl j2)] u1.2 = _
    refine Eq.trans (e1 hG PT_113 k113_8 _ _ _) ?_
    show G 113 9 [some (.inr (.inr x0)), some (.inr (.inr x1)), some (.inr (.inr x2)), some (.inr (.inl j2)), none] [.inl (lg_cmp j2 0)] u1.2 = _
    refine Eq.trans (e1 hG PT_113 k113_9 _ _ _) ?_
    refine bfc ?_ ?_
    · show G 113 31 [some (.inr (.inr x0)), some (.inr (.inr x1)), some (.inr (.inr x2)), some (.inr (.inl j2)), none] [] u1.2 = _
      refine Eq.trans (e1 hG PT_113 k113_31 _ _ _) ?_
      show G 113 32 [some (.inr (.inr x0)), some (.inr (.inr x1)), some (.inr (.inr x2)), some (.inr (.inl j2)), none] [.inr (.inr x0)] u1.2 = _
      refine Eq.trans (e1 hG PT_113 k113_32 _ _ _) ?_
      refine bfc ?_ ?_
      · refine bdc fun u3 => ?_
        refine bdc fun i4 => ?_
        show G 113 35 [some (.inr (.inr x0)), some (.inr (.inr x1)), some (.inr (.inr x2)), some (.inr (.inl j2)), none] [.inl i4] u3.2 = _
        refine Eq.trans (e1 hG PT_113 k113_35 _ _ _) ?_
        refine bfc ?_ ?_
        · rfl
        · show G 113 38 [some (.inr (.inr x0)), some (.inr (.inr x1)), some (.inr (.inr x2)), some (.inr (.inl j2)), none] [] u3.2 = _
          refine Eq.trans (e1 hG PT_113 k113_38 _ _ _) ?_
          show G 113 39 [some (.inr (.inr x0)), some (.inr (.inr x1)), some (.inr (.inr x2)), some (.inr (.inl j2)), none] [.inr (.inr x1)] u3.2 = _
          refine Eq.trans (e1 hG PT_113 k113_39 _ _ _) ?_
          show G 113 40 [some (.inr (.inr x0)), some (.inr (.inr x1)), some (.inr (.inr x2)), some (.inr (.inl j2)), none] [.inr (.inr x2), .inr (.inr x1)] u3.2 = _
          refine Eq.trans (e1 hG PT_113 k113_40 _ _ _) ?_
          show G 113 41 [some (.inr (.inr x0)), some (.inr (.inr x1)), some (.inr (.inr x2)), some (.inr (.inl j2)), none] [.inr (.inl j2), .inr (.inr x2), .inr (.inr x1)] u3.2 = _
          refine Eq.trans (e1 hG PT_113 k113_41 _ _ _) ?_
          refine bfc ?_ ?_
          · refine bdc fun u5 => ?_
            refine bdc fun _ => ?_
            show G 113 44 [some (.inr (.inr x0)), some (.inr (.inr x1)), some (.inr (.inr x2)), some (.inr (.inl j2)), none] [] u5.2 = _
            refine Eq.trans (e1 hG PT_113 k113_44 _ _ _) ?_
            show G 113 45 [some (.inr (.inr x0)), some (.inr (.inr x1)), some (.inr (.inr x2)), some (.inr (.inl j2)), none] [.inr (.inr x0)] u5.2 = _
            refine Eq.trans (e1 hG PT_113 k113_45 _ _ _) ?_
            show G 113 46 [some (.inr (.inr x0)), some (.inr (.inr x1)), some (.inr (.inr x2)), some (.inr (.inl j2)), none] [.inr (.inr x2), .inr (.inr x0)] u5.2 = _
            refine Eq.trans (e1 hG PT_113 k113_46 _ _ _) ?_
            refine bdc fun i6 => ?_
            show G 113 49 [some (.inr (.inr x0)), some (.inr (.inr x1)), some (.inr (.inr x2)), some (.inr (.inl j2)), none] [.inl i6, .inr (.inr x0)] u5.2 = _
            refine Eq.trans (e1 hG PT_113 k113_49 _ _ _) ?_
            show G 113 50 [some (.inr (.inr x0)), some (.inr (.inr x1)), some (.inr (.inr x2)), some (.inr (.inl j2)), none] [.inl 1, .inl i6, .inr (.inr x0)] u5.2 = _
            refine Eq.trans (e1 hG PT_113 k113_50 _ _ _) ?_
            show G 113 51 [some (.inr (.inr x0)), some (.inr (.inr x1)), some (.inr (.inr x2)), some (.inr (.inl j2)), none] [.inl (i6 + 1), .inr (.inr x0)] u5.2 = _
            refine Eq.trans (e1 hG PT_113 k113_51 _ _ _) ?_
            refine bdc fun H7 => ?_
            rfl
          · rfl
      · rfl
    · show G 113 12 [some (.inr (.inr x0)), some (.inr (.inr x1)), some (.inr (.inr x2)), some (.inr (.inl j2)), none] [] u1.2 = _
      refine Eq.trans (e1 hG PT_113 k113_12 _ _ _) ?_
      show G 113 13 [some (.inr (.inr x0)), some (.inr (.inr x1)), some (.inr (.inr x2)), some (.inr (.inl j2)), none] [.inr (.inr x1)] u1.2 = _
      refine Eq.trans (e1 hG PT_113 k113_13 _ _ _) ?_
      show G 113 14 [some (.inr (.inr x0)), some (.inr (.inr x1)), some (.inr (.inr x2)), some (.inr (.inl j2)), none] [.inr (.inr x2), .inr (.inr x1)] u1.2 = _
      refine Eq.trans (e1 hG PT_113 k113_14 _ _ _) ?_
      show G 113 15 [some (.inr (.inr x0)), some (.inr (.inr x1)), some (.inr (.inr x2)), some (.inr (.inl j2)), none] [.inr (.inl 0), .inr (.inr x2), .inr (.inr x1)] u1.2 = _
      refine Eq.trans (e1 hG PT_113 k113_15 _ _ _) ?_
      refine bfc ?_ ?_
      · refine bdc fun u8 => ?_
        refine bdc fun _ => ?_
        show G 113 18 [some (.inr (.inr x0)), some (.inr (.inr x1)), some (.inr (.inr x2)), some (.inr (.inl j2)), none] [] u8.2 = _
        refine Eq.trans (e1 hG PT_113 k113_18 _ _ _) ?_
        show G 113 19 [some (.inr (.inr x0)), some (.inr (.inr x1)), some (.inr (.inr x2)), some (.inr (.inl j2)), none] [.inr (.inr x0)] u8.2 = _
        refine Eq.trans (e1 hG PT_113 k113_19 _ _ _) ?_
        show G 113 20 [some (.inr (.inr x0)), some (.inr (.inr x1)), some (.inr (.inr x2)), some (.inr (.inl j2)), none] [.inr (.inr x2), .inr (.inr x0)] u8.2 = _
        refine Eq.trans (e1 hG PT_113 k113_20 _ _ _) ?_
        refine bdc fun i9 => ?_
        show G 113 23 [some (.inr (.inr x0)), some (.inr (.inr x1)), some (.inr (.inr x2)), some (.inr (.inl j2)), none] [.inl i9, .inr (.inr x0)] u8.2 = _
        refine Eq.trans (e1 hG PT_113 k113_23 _ _ _) ?_
        show G 113 24 [some (.inr (.inr x0)), some (.inr (.inr x1)), some (.inr (.inr x2)), some (.inr (.inl j2)), none] [.inl 1, .inl i9, .inr (.inr x0)] u8.2 = _
        refine Eq.trans (e1 hG PT_113 k113_24 _ _ _) ?_
        show G 113 25 [some (.inr (.inr x0)), some (.inr (.inr x1)), some (.inr (.inr x2)), some (.inr (.inl j2)), none] [.inl (i9 + 1), .inr (.inr x0)] u8.2 = _
        refine Eq.trans (e1 hG PT_113 k113_25 _ _ _) ?_
        refine bdc fun H10 => ?_
        show G 113 28 [some (.inr (.inr x0)), some (.inr (.inr x1)), some (.inr (.inr x2)), some (.inr (.inl j2)), none] [] H10 = _
        refine Eq.trans (e1 hG PT_113 k113_28 _ _ _) ?_
        rfl
      · rfl
  · rfl
theorem b113_54 {G : AG} (hG : FIX G) (x0 : Nat) (x1 : Nat) (x2 : Nat) (x3 : Int64) (H : Hp) : G 113 54 [some (.inr (.inr x0)), some (.inr (.inr x1)), some (.inr (.inr x2)), some (.inr (.inl x3)), none] [] H = (some (none, H)) := by
  exact e1 hG PT_113 k113_54 _ _ _
-- StepsAhead$Routine.nextRound(LStepsAhead$Loop;)J
theorem PT_114 : PT 114 = pt114 := rfl
theorem k114_0 : lkp pt114 0 = iP 1 (fAld 1) := rfl
theorem k114_1 : lkp pt114 1 = iCK 4 3 90 1 1 1 := rfl
theorem k114_4 : lkp pt114 4 = iP 5 (fIst 2) := rfl
theorem k114_5 : lkp pt114 5 = iP 6 (fIld 2) := rfl
theorem k114_6 : lkp pt114 6 = iP 7 (fK (.inl 5)) := rfl
theorem k114_7 : lkp pt114 7 = iB 10 26 (b2 (fun x y => decide (y ≤ x))) := rfl
theorem k114_10 : lkp pt114 10 = iP 11 (fAld 0) := rfl
theorem k114_11 : lkp pt114 11 = iRR 14 (gtR 29) := rfl
theorem k114_14 : lkp pt114 14 = iP 15 (fIld 2) := rfl
theorem k114_15 : lkp pt114 15 = iRJ 16 qAJ := rfl
theorem k114_16 : lkp pt114 16 = iP 17 (fAld 0) := rfl
theorem k114_17 : lkp pt114 17 = iRR 20 (gtR 30) := rfl
theorem k114_20 : lkp pt114 20 = iP 21 (fIld 2) := rfl
theorem k114_21 : lkp pt114 21 = iRJ 22 qAJ := rfl
theorem k114_22 : lkp pt114 22 = iP 23 fLcmp := rfl
theorem k114_23 : lkp pt114 23 = iB 26 28 (b1 (fun x => decide (x < 0))) := rfl
theorem k114_26 : lkp pt114 26 = iP 27 (fK (.inr (.inl 0))) := rfl
theorem k114_27 : lkp pt114 27 = iRet rJ := rfl
theorem k114_28 : lkp pt114 28 = iP 29 (fAld 0) := rfl
theorem k114_29 : lkp pt114 29 = iRR 32 (gtR 29) := rfl
theorem k114_32 : lkp pt114 32 = iP 33 (fIld 2) := rfl
theorem k114_33 : lkp pt114 33 = iRJ 34 qAJ := rfl
theorem k114_34 : lkp pt114 34 = iP 35 (fK (.inr (.inl 1))) := rfl
theorem k114_35 : lkp pt114 35 = iP 36 (f2J (fun x y => x + y)) := rfl
theorem k114_36 : lkp pt114 36 = iRet rJ := rfl
theorem b114_0 {G : AG} (hG : FIX G) (x0 : Nat) (x1 : Nat) (H : Hp) : G 114 0 [some (.inr (.inr x0)), some (.inr (.inr x1)), none] [] H = (bif Nat.beq (H.1 x1).1 3 then (G 90 0 [some (.inr (.inr x1))] [] H).bind fun u1 => (asI u1.1).bind fun i2 => bif decide ((5 : Int32) ≤ (i2 : Int32)) then G 114 26 [some (.inr (.inr x0)), some (.inr (.inr x1)), some (.inl i2)] [] u1.2 else (hgR u1.2 x0 29).bind fun r3 => (hAJ u1.2 r3 i2).bind fun j4 => (hgR u1.2 x0 30).bind fun r5 => (hAJ u1.2 r5 i2).bind fun j6 => bif decide (((lg_cmp j4 j6) : Int32) < 0) then (hgR u1.2 x0 29).bind fun r7 => (hAJ u1.2 r7 i2).bind fun j8 => some (some (.inr (.inl ((j8 + 1)))), u1.2) else G 114 26 [some (.inr (.inr x0)), some (.inr (.inr x1)), some (.inl i2)] [] u1.2 else none) := by
  refine Eq.trans (e1 hG PT_114 k114_0 _ _ _) ?_
  show G 114 1 [some (.inr (.inr x0)), some (.inr (.inr x1)), none] [.inr (.inr x1)] H = _
  refine Eq.trans (e1 hG PT_114 k114_1 _ _ _) ?_
  refine bfc ?_ ?_
  · refine bdc fun u1 => ?_
    refine bdc fun i2 => ?_
    show G 114 4 [some (.inr (.inr x0)), some (.inr (.inr x1)), none] [.inl i2] u1.2 = _
    refine Eq.trans (e1 hG PT_114 k114_4 _ _ _) ?_
    show G 114 5 [some (.inr (.inr x0)), some (.inr (.inr x1)), some (.inl i2)] [] u1.2 = _
    refine Eq.trans (e1 hG PT_114 k114_5 _ _ _) ?_
    show G 114 6 [some (.inr (.inr x0)), some (.inr (.inr x1)), some (.inl i2)] [.inl i2] u1.2 = _
    refine Eq.trans (e1 hG PT_114 k114_6 _ _ _) ?_
    show G 114 7 [some (.inr (.inr x0)), some (.inr (.inr x1)), some (.inl i2)] [.inl 5, .inl i2] u1.2 = _
    refine Eq.trans (e1 hG PT_114 k114_7 _ _ _) ?_
    refine bfc ?_ ?_
    · rfl
    · show G 114 10 [some (.inr (.inr x0)), some (.inr (.inr x1)), some (.inl i2)] [] u1.2 = _
      refine Eq.trans (e1 hG PT_114 k114_10 _ _ _) ?_
      show G 114 11 [some (.inr (.inr x0)), some (.inr (.inr x1)), some (.inl i2)] [.inr (.inr x0)] u1.2 = _
      refine Eq.trans (e1 hG PT_114 k114_11 _ _ _) ?_
      refine bdc fun r3 => ?_
      show G 114 14 [some (.inr (.inr x0)), some (.inr (.inr x1)), some (.inl i2)] [.inr (.inr r3)] u1.2 = _
      refine Eq.trans (e1 hG PT_114 k114_14 _ _ _) ?_
      show G 114 15 [some (.inr (.inr x0)), some (.inr (.inr x1)), some (.inl i2)] [.inl i2, .inr (.inr r3)] u1.2 = _
      refine Eq.trans (e1 hG PT_114 k114_15 _ _ _) ?_
      refine bdc fun j4 => ?_
      show G 114 16 [some (.inr (.inr x0)), some (.inr (.inr x1)), some (.inl i2)] [.inr (.inl j4)] u1.2 = _
      refine Eq.trans (e1 hG PT_114 k114_16 _ _ _) ?_
      show G 114 17 [some (.inr (.inr x0)), some (.inr (.inr x1)), some (.inl i2)] [.inr (.inr x0), .inr (.inl j4)] u1.2 = _
      refine Eq.trans (e1 hG PT_114 k114_17 _ _ _) ?_
      refine bdc fun r5 => ?_
      show G 114 20 [some (.inr (.inr x0)), some (.inr (.inr x1)), some (.inl i2)] [.inr (.inr r5), .inr (.inl j4)] u1.2 = _
      refine Eq.trans (e1 hG PT_114 k114_20 _ _ _) ?_
      show G 114 21 [some (.inr (.inr x0)), some (.inr (.inr x1)), some (.inl i2)] [.inl i2, .inr (.inr r5), .inr (.inl j4)] u1.2 = _
      refine Eq.trans (e1 hG PT_114 k114_21 _ _ _) ?_
      refine bdc fun j6 => ?_
      show G 114 22 [some (.inr (.inr x0)), some (.inr (.inr x1)), some (.inl i2)] [.inr (.inl j6), .inr (.inl j4)] u1.2 = _
      refine Eq.trans (e1 hG PT_114 k114_22 _ _ _) ?_
      show G 114 23 [some (.inr (.inr x0)), some (.inr (.inr x1)), some (.inl i2)] [.inl (lg_cmp j4 j6)] u1.2 = _
      refine Eq.trans (e1 hG PT_114 k114_23 _ _ _) ?_
      refine bfc ?_ ?_
      · show G 114 28 [some (.inr (.inr x0)), some (.inr (.inr x1)), some (.inl i2)] [] u1.2 = _
        refine Eq.trans (e1 hG PT_114 k114_28 _ _ _) ?_
        show G 114 29 [some (.inr (.inr x0)), some (.inr (.inr x1)), some (.inl i2)] [.inr (.inr x0)] u1.2 = _
        refine Eq.trans (e1 hG PT_114 k114_29 _ _ _) ?_
        refine bdc fun r7 => ?_
        show G 114 32 [some (.inr (.inr x0)), some (.inr (.inr x1)), some (.inl i2)] [.inr (.inr r7)] u1.2 = _
        refine Eq.trans (e1 hG PT_114 k114_32 _ _ _) ?_
        show G 114 33 [some (.inr (.inr x0)), some (.inr (.inr x1)), some (.inl i2)] [.inl i2, .inr (.inr r7)] u1.2 = _
        refine Eq.trans (e1 hG PT_114 k114_33 _ _ _) ?_
        refine bdc fun j8 => ?_
        show G 114 34 [some (.inr (.inr x0)), some (.inr (.inr x1)), some (.inl i2)] [.inr (.inl j8)] u1.2 = _
        refine Eq.trans (e1 hG PT_114 k114_34 _ _ _) ?_
        show G 114 35 [some (.inr (.inr x0)), some (.inr (.inr x1)), some (.inl i2)] [.inr (.inl 1), .inr (.inl j8)] u1.2 = _
        refine Eq.trans (e1 hG PT_114 k114_35 _ _ _) ?_
        show G 114 36 [some (.inr (.inr x0)), some (.inr (.inr x1)), some (.inl i2)] [.inr (.inl (j8 + 1))] u1.2 = _
        exact e1 hG PT_114 k114_36 _ _ _
      · rfl
  · rfl
theorem b114_26 {G : AG} (hG : FIX G) (x0 : Nat) (x1 : Nat) (x2 : Int32) (H : Hp) : G 114 26 [some (.inr (.inr x0)), some (.inr (.inr x1)), some (.inl x2)] [] H = (some (some (.inr (.inl 0)), H)) := by
  refine Eq.trans (e1 hG PT_114 k114_26 _ _ _) ?_
  show G 114 27 [some (.inr (.inr x0)), some (.inr (.inr x1)), some (.inl x2)] [.inr (.inl 0)] H = _
  exact e1 hG PT_114 k114_27 _ _ _
-- StepsAhead$Routine.setCounter(LStepsAhead$Loop;J)V
theorem PT_115 : PT 115 = pt115 := rfl
theorem k115_0 : lkp pt115 0 = iP 1 (fAld 1) := rfl
theorem k115_1 : lkp pt115 1 = iCK 4 3 90 1 1 1 := rfl
theorem k115_4 : lkp pt115 4 = iP 6 (fIst 4) := rfl
theorem k115_6 : lkp pt115 6 = iP 8 (fIld 4) := rfl
theorem k115_8 : lkp pt115 8 = iP 9 (fK (.inl 5)) := rfl
theorem k115_9 : lkp pt115 9 = iB 12 20 (b2 (fun x y => decide (y ≤ x))) := rfl
theorem k115_12 : lkp pt115 12 = iP 13 (fAld 0) := rfl
theorem k115_13 : lkp pt115 13 = iRR 16 (gtR 29) := rfl
theorem k115_16 : lkp pt115 16 = iP 18 (fIld 4) := rfl
theorem k115_18 : lkp pt115 18 = iP 19 (fJld 2) := rfl
theorem k115_19 : lkp pt115 19 = iW 20 wAJ := rfl
theorem k115_20 : lkp pt115 20 = iRet rV := rfl
theorem b115_0 {G : AG} (hG : FIX G) (x0 : Nat) (x1 : Nat) (x2 : Int64) (H : Hp) : G 115 0 [some (.inr (.inr x0)), some (.inr (.inr x1)), some (.inr (.inl x2)), none, none] [] H = (bif Nat.beq (H.1 x1).1 3 then (G 90 0 [some (.inr (.inr x1))] [] H).bind fun u1 => (asI u1.1).bind fun i2 => bif decide ((5 : Int32) ≤ (i2 : Int32)) then G 115 20 [some (.inr (.inr x0)), some (.inr (.inr x1)), some (.inr (.inl x2)), none, some (.inl i2)] [] u1.2 else (hgR u1.2 x0 29).bind fun r3 => (hSJ u1.2 r3 i2 x2).bind fun H4 => G 115 20 [some (.inr (.inr x0)), some (.inr (.inr x1)), some (.inr (.inl x2)), none, some (.inl i2)] [] H4 else none) := by
  refine Eq.trans (e1 hG PT_115 k115_0 _ _ _) ?_
  show G 115 1 [some (.inr (.inr x0)), some (.inr (.inr x1)), some (.inr (.inl x2)), none, none] [.inr (.inr x1)] H = _
  refine Eq.trans (e1 hG PT_115 k115_1 _ _ _) ?_
  refine bfc ?_ ?_
  · refine bdc fun u1 => ?_
    refine bdc fun i2 => ?_
    show G 115 4 [some (.inr (.inr x0)), some (.inr (.inr x1)), some (.inr (.inl x2)), none, none] [.inl i2] u1.2 = _
    refine Eq.trans (e1 hG PT_115 k115_4 _ _ _) ?_
    show G 115 6 [some (.inr (.inr x0)), some (.inr (.inr x1)), some (.inr (.inl x2)), none, some (.inl i2)] [] u1.2 = _
    refine Eq.trans (e1 hG PT_115 k115_6 _ _ _) ?_
    show G 115 8 [some (.inr (.inr x0)), some (.inr (.inr x1)), some (.inr (.inl x2)), none, some (.inl i2)] [.inl i2] u1.2 = _
    refine Eq.trans (e1 hG PT_115 k115_8 _ _ _) ?_
    show G 115 9 [some (.inr (.inr x0)), some (.inr (.inr x1)), some (.inr (.inl x2)), none, some (.inl i2)] [.inl 5, .inl i2] u1.2 = _
    refine Eq.trans (e1 hG PT_115 k115_9 _ _ _) ?_
    refine bfc ?_ ?_
    · rfl
    · show G 115 12 [some (.inr (.inr x0)), some (.inr (.inr x1)), some (.inr (.inl x2)), none, some (.inl i2)] [] u1.2 = _
      refine Eq.trans (e1 hG PT_115 k115_12 _ _ _) ?_
      show G 115 13 [some (.inr (.inr x0)), some (.inr (.inr x1)), some (.inr (.inl x2)), none, some (.inl i2)] [.inr (.inr x0)] u1.2 = _
      refine Eq.trans (e1 hG PT_115 k115_13 _ _ _) ?_
      refine bdc fun r3 => ?_
      show G 115 16 [some (.inr (.inr x0)), some (.inr (.inr x1)), some (.inr (.inl x2)), none, some (.inl i2)] [.inr (.inr r3)] u1.2 = _
      refine Eq.trans (e1 hG PT_115 k115_16 _ _ _) ?_
      show G 115 18 [some (.inr (.inr x0)), some (.inr (.inr x1)), some (.inr (.inl x2)), none, some (.inl i2)] [.inl i2, .inr (.inr r3)] u1.2 = _
      refine Eq.trans (e1 hG PT_115 k115_18 _ _ _) ?_
      show G 115 19 [some (.inr (.inr x0)), some (.inr (.inr x1)), some (.inr (.inl x2)), none, some (.inl i2)] [.inr (.inl x2), .inl i2, .inr (.inr r3)] u1.2 = _
      refine Eq.trans (e1 hG PT_115 k115_19 _ _ _) ?_
      refine bdc fun H4 => ?_
      rfl
  · rfl
theorem b115_20 {G : AG} (hG : FIX G) (x0 : Nat) (x1 : Nat) (x2 : Int64) (x4 : Int32) (H : Hp) : G 115 20 [some (.inr (.inr x0)), some (.inr (.inr x1)), some (.inr (.inl x2)), none, some (.inl x4)] [] H = (some (none, H)) := by
  exact e1 hG PT_115 k115_20 _ _ _
-- StepsAhead$Runner.comes()Z
theorem PT_116 : PT 116 = pt116 := rfl
theorem k116_0 : lkp pt116 0 = iP 1 (fAld 0) := rfl
theorem k116_1 : lkp pt116 1 = iRI 4 (gtI 36) := rfl
theorem k116_4 : lkp pt116 4 = iP 7 (fK (.inl 20000)) := rfl
theorem k116_7 : lkp pt116 7 = iB 10 17 (b2 (fun x y => decide (x < y))) := rfl
theorem k116_10 : lkp pt116 10 = iP 11 (fAld 0) := rfl
theorem k116_11 : lkp pt116 11 = iP 12 (fK (.inl 1)) := rfl
theorem k116_12 : lkp pt116 12 = iW 15 (ptZ 37) := rfl
theorem k116_15 : lkp pt116 15 = iP 16 (fK (.inl 0)) := rfl
theorem k116_16 : lkp pt116 16 = iRet rZ := rfl
theorem k116_17 : lkp pt116 17 = iP 18 (fAld 0) := rfl
theorem k116_18 : lkp pt116 18 = iP 19 fDup := rfl
theorem k116_19 : lkp pt116 19 = iRI 22 (gtI 36) := rfl
theorem k116_22 : lkp pt116 22 = iP 23 (fK (.inl 1)) := rfl
theorem k116_23 : lkp pt116 23 = iP 24 (f2I (fun x y => x + y)) := rfl
theorem k116_24 : lkp pt116 24 = iW 27 (ptI 36) := rfl
theorem k116_27 : lkp pt116 27 = iP 28 (fAld 0) := rfl
theorem k116_28 : lkp pt116 28 = iP 29 fDup := rfl
theorem k116_29 : lkp pt116 29 = iRI 32 (gtI 35) := rfl
theorem k116_32 : lkp pt116 32 = iP 33 (fK (.inl 1)) := rfl
theorem k116_33 : lkp pt116 33 = iP 34 (f2I (fun x y => x + y)) := rfl
theorem k116_34 : lkp pt116 34 = iW 37 (ptI 35) := rfl
theorem k116_37 : lkp pt116 37 = iP 38 (fK (.inl 1)) := rfl
theorem k116_38 : lkp pt116 38 = iRet rZ := rfl
theorem b116_0 {G : AG} (hG : FIX G) (x0 : Nat) (H : Hp) : G 116 0 [some (.inr (.inr x0))] [] H = ((hgI H x0 36).bind fun i1 => bif decide ((i1 : Int32) < (20000 : Int32)) then (hgI H x0 36).bind fun i2 => (hpI H x0 36 ((i2 + 1))).bind fun H3 => (hgI H3 x0 35).bind fun i4 => (hpI H3 x0 35 ((i4 + 1))).bind fun H5 => retZ 1 H5 else (hpZ H x0 37 1).bind fun H6 => retZ 0 H6) := by
  refine Eq.trans (e1 hG PT_116 k116_0 _ _ _) ?_
  show G 116 1 [some (.inr (.inr x0))] [.inr (.inr x0)] H = _
  refine Eq.trans (e1 hG PT_116 k116_1 _ _ _) ?_
  refine bdc fun i1 => ?_
  show G 116 4 [some (.inr (.inr x0))] [.inl i1] H = _
  refine Eq.trans (e1 hG PT_116 k116_4 _ _ _) ?_
  show G 116 7 [some (.inr (.inr x0))] [.inl 20000, .inl i1] H = _
  refine Eq.trans (e1 hG PT_116 k116_7 _ _ _) ?_
  refine bfc ?_ ?_
  · show G 116 17 [some (.inr (.inr x0))] [] H = _
    refine Eq.trans (e1 hG PT_116 k116_17 _ _ _) ?_
    show G 116 18 [some (.inr (.inr x0))] [.inr (.inr x0)] H = _
    refine Eq.trans (e1 hG PT_116 k116_18 _ _ _) ?_
    show G 116 19 [some (.inr (.inr x0))] [.inr (.inr x0), .inr (.inr x0)] H = _
    refine Eq.trans (e1 hG PT_116 k116_19 _ _ _) ?_
    refine bdc fun i2 => ?_
    show G 116 22 [some (.inr (.inr x0))] [.inl i2, .inr (.inr x0)] H = _
    refine Eq.trans (e1 hG PT_116 k116_22 _ _ _) ?_
    show G 116 23 [some (.inr (.inr x0))] [.inl 1, .inl i2, .inr (.inr x0)] H = _
    refine Eq.trans (e1 hG PT_116 k116_23 _ _ _) ?_
    show G 116 24 [some (.inr (.inr x0))] [.inl (i2 + 1), .inr (.inr x0)] H = _
    refine Eq.trans (e1 hG PT_116 k116_24 _ _ _) ?_
    refine bdc fun H3 => ?_
    show G 116 27 [some (.inr (.inr x0))] [] H3 = _
    refine Eq.trans (e1 hG PT_116 k116_27 _ _ _) ?_
    show G 116 28 [some (.inr (.inr x0))] [.inr (.inr x0)] H3 = _
    refine Eq.trans (e1 hG PT_116 k116_28 _ _ _) ?_
    show G 116 29 [some (.inr (.inr x0))] [.inr (.inr x0), .inr (.inr x0)] H3 = _
    refine Eq.trans (e1 hG PT_116 k116_29 _ _ _) ?_
    refine bdc fun i4 => ?_
    show G 116 32 [some (.inr (.inr x0))] [.inl i4, .inr (.inr x0)] H3 = _
    refine Eq.trans (e1 hG PT_116 k116_32 _ _ _) ?_
    show G 116 33 [some (.inr (.inr x0))] [.inl 1, .inl i4, .inr (.inr x0)] H3 = _
    refine Eq.trans (e1 hG PT_116 k116_33 _ _ _) ?_
    show G 116 34 [some (.inr (.inr x0))] [.inl (i4 + 1), .inr (.inr x0)] H3 = _
    refine Eq.trans (e1 hG PT_116 k116_34 _ _ _) ?_
    refine bdc fun H5 => ?_
    show G 116 37 [some (.inr (.inr x0))] [] H5 = _
    refine Eq.trans (e1 hG PT_116 k116_37 _ _ _) ?_
    show G 116 38 [some (.inr (.inr x0))] [.inl 1] H5 = _
    exact e1 hG PT_116 k116_38 _ _ _
  · show G 116 10 [some (.inr (.inr x0))] [] H = _
    refine Eq.trans (e1 hG PT_116 k116_10 _ _ _) ?_
    show G 116 11 [some (.inr (.inr x0))] [.inr (.inr x0)] H = _
    refine Eq.trans (e1 hG PT_116 k116_11 _ _ _) ?_
    show G 116 12 [some (.inr (.inr x0))] [.inl 1, .inr (.inr x0)] H = _
    refine Eq.trans (e1 hG PT_116 k116_12 _ _ _) ?_
    refine bdc fun H6 => ?_
    show G 116 15 [some (.inr (.inr x0))] [] H6 = _
    refine Eq.trans (e1 hG PT_116 k116_15 _ _ _) ?_
    show G 116 16 [some (.inr (.inr x0))] [.inl 0] H6 = _
    exact e1 hG PT_116 k116_16 _ _ _
-- StepsAhead$Runner.goInto(LStepsAhead$Routine;LStepsAhead$Call;)V
theorem PT_117 : PT 117 = pt117 := rfl
theorem k117_0 : lkp pt117 0 = iP 1 (fAld 0) := rfl
theorem k117_1 : lkp pt117 1 = iCK 4 8 116 1 1 1 := rfl
theorem k117_4 : lkp pt117 4 = iB 7 50 (b1 (fun x => decide (x = 0))) := rfl
theorem k117_7 : lkp pt117 7 = iP 8 (fAld 2) := rfl
theorem k117_8 : lkp pt117 8 = iRR 11 (gtR 6) := rfl
theorem k117_11 : lkp pt117 11 = iP 12 (fAld 1) := rfl
theorem k117_12 : lkp pt117 12 = iP 13 (fAld 2) := rfl
theorem k117_13 : lkp pt117 13 = iRR 16 (gtR 0) := rfl
theorem k117_16 : lkp pt117 16 = iCK 19 7 111 5 2 2 := rfl
theorem k117_19 : lkp pt117 19 = iP 20 (fAld 1) := rfl
theorem k117_20 : lkp pt117 20 = iP 21 (fAld 2) := rfl
theorem k117_21 : lkp pt117 21 = iRR 24 (gtR 5) := rfl
theorem k117_24 : lkp pt117 24 = iCK 27 7 111 5 2 2 := rfl
theorem k117_27 : lkp pt117 27 = iP 28 (fAld 1) := rfl
theorem k117_28 : lkp pt117 28 = iP 29 (fAld 0) := rfl
theorem k117_29 : lkp pt117 29 = iRI 32 (gtI 39) := rfl
theorem k117_32 : lkp pt117 32 = iP 33 (fK (.inl 1)) := rfl
theorem k117_33 : lkp pt117 33 = iP 34 (f2I (fun x y => x + y)) := rfl
theorem k117_34 : lkp pt117 34 = iCK 37 7 109 7 5 0 := rfl
theorem k117_37 : lkp pt117 37 = iP 38 (fAld 0) := rfl
theorem k117_38 : lkp pt117 38 = iP 39 (fAld 2) := rfl
theorem k117_39 : lkp pt117 39 = iRR 42 (gtR 6) := rfl
theorem k117_42 : lkp pt117 42 = iW 45 (ptR 38) := rfl
theorem k117_45 : lkp pt117 45 = iP 46 (fAld 0) := rfl
theorem k117_46 : lkp pt117 46 = iP 47 (fK (.inl 0)) := rfl
theorem k117_47 : lkp pt117 47 = iW 50 (ptI 39) := rfl
theorem k117_50 : lkp pt117 50 = iRet rV := rfl
theorem b117_0 {G : AG} (hG : FIX G) (x0 : Nat) (x1 : Nat) (x2 : Nat) (H : Hp) : G 117 0 [some (.inr (.inr x0)), some (.inr (.inr x1)), some (.inr (.inr x2))] [] H = (bif Nat.beq (H.1 x0).1 8 then (G 116 0 [some (.inr (.inr x0))] [] H).bind fun u1 => (asI u1.1).bind fun i2 => bif decide ((i2 : Int32) = 0) then G 117 50 [some (.inr (.inr x0)), some (.inr (.inr x1)), some (.inr (.inr x2))] [] u1.2 else (hgR u1.2 x2 6).bind fun r3 => (hgR u1.2 x2 0).bind fun r4 => bif Nat.beq (u1.2.1 x1).1 7 then (G 111 0 [some (.inr (.inr x1)), some (.inr (.inr r4)), none, none, none] [] u1.2).bind fun u5 => (asJ u5.1).bind fun j6 => (hgR u5.2 x2 5).bind fun r7 => bif Nat.beq (u5.2.1 x1).1 7 then (G 111 0 [some (.inr (.inr x1)), some (.inr (.inr r7)), none, none, none] [] u5.2).bind fun u8 => (asJ u8.1).bind fun j9 => (hgI u8.2 x0 39).bind fun i10 => bif Nat.beq (u8.2.1 r3).1 7 then (G 109 0 [some (.inr (.inr r3)), some (.inr (.inl j6)), none, some (.inr (.inl j9)), none, some (.inr (.inr x1)), some (.inl ((i10 + 1)))] [] u8.2).bind fun u11 => (asV u11.1).bind fun _ => (hgR u11.2 x2 6).bind fun r12 => (hpR u11.2 x0 38 r12).bind fun H13 => (hpI H13 x0 39 0).bind fun H14 => G 117 50 [some (.inr (.inr x0)), some (.inr (.inr x1)), some (.inr (.inr x2))] [] H14 else none else none else none else none) := by
  refine Eq.trans (e1 hG PT_117 k117_0 _ _ _) ?_
  show G 117 1 [some (.inr (.inr x0)), some (.inr (.inr x1)), some (.inr (.inr x2))] [.inr (.inr x0)] H = _
  refine Eq.trans (e1 hG PT_117 k117_1 _ _ _) ?_
  refine bfc ?_ ?_
  · refine bdc fun u1 => ?_
    refine bdc fun i2 => ?_
    show G 117 4 [some (.inr (.inr x0)), some (.inr (.inr x1)), some (.inr (.inr x2))] [.inl i2] u1.2 = _
    refine Eq.trans (e1 hG PT_117 k117_4 _ _ _) ?_
    refine bfc ?_ ?_
    · rfl
    · show G 117 7 [some (.inr (.inr x0)), some (.inr (.inr x1)), some (.inr (.inr x2))] [] u1.2 = _
      refine Eq.trans (e1 hG PT_117 k117_7 _ _ _) ?_
      show G 117 8 [some (.inr (.inr x0)), some (.inr (.inr x1)), some (.inr (.inr x2))] [.inr (.inr x2)] u1.2 = _
      refine Eq.trans (e1 hG PT_117 k117_8 _ _ _) ?_
      refine bdc fun r3 => ?_
      show G 117 11 [some (.inr (.inr x0)), some (.inr (.inr x1)), some (.inr (.inr x2))] [.inr (.inr r3)] u1.2 = _
      refine Eq.trans (e1 hG PT_117 k117_11 _ _ _) ?_
      show G 117 12 [some (.inr (.inr x0)), some (.inr (.inr x1)), some (.inr (.inr x2))] [.inr (.inr x1), .inr (.inr r3)] u1.2 = _
      refine Eq.trans (e1 hG PT_117 k117_12 _ _ _) ?_
      show G 117 13 [some (.inr (.inr x0)), some (.inr (.inr x1)), some (.inr (.inr x2))] [.inr (.inr x2), .inr (.inr x1), .inr (.inr r3)] u1.2 = _
      refine Eq.trans (e1 hG PT_117 k117_13 _ _ _) ?_
      refine bdc fun r4 => ?_
      show G 117 16 [some (.inr (.inr x0)), some (.inr (.inr x1)), some (.inr (.inr x2))] [.inr (.inr r4), .inr (.inr x1), .inr (.inr r3)] u1.2 = _
      refine Eq.trans (e1 hG PT_117 k117_16 _ _ _) ?_
      refine bfc ?_ ?_
      · refine bdc fun u5 => ?_
        refine bdc fun j6 => ?_
        show G 117 19 [some (.inr (.inr x0)), some (.inr (.inr x1)), some (.inr (.inr x2))] [.inr (.inl j6), .inr (.inr r3)] u5.2 = _
        refine Eq.trans (e1 hG PT_117 k117_19 _ _ _) ?_
        show G 117 20 [some (.inr (.inr x0)), some (.inr (.inr x1)), some (.inr (.inr x2))] [.inr (.inr x1), .inr (.inl j6), .inr (.inr r3)] u5.2 = _
        refine Eq.trans (e1 hG PT_117 k117_20 _ _ _) ?_
        show G 117 21 [some (.inr (.inr x0)), some (.inr (.inr x1)), some (.inr (.inr x2))] [.inr (.inr x2), .inr (.inr x1), .inr (.inl j6), .inr (.inr r3)] u5.2 = _
        refine Eq.trans (e1 hG PT_117 k117_21 _ _ _) ?_
        refine bdc fun r7 => ?_
        show G 117 24 [some (.inr (.inr x0)), some (.inr (.inr x1)), some (.inr (.inr x2))] [.inr (.inr r7), .inr (.inr x1), .inr (.inl j6), .inr (.inr r3)] u5.2 = _
        refine Eq.trans (e1 hG PT_117 k117_24 _ _ _) ?_
        refine bfc ?_ ?_
        · refine bdc fun u8 => ?_
          refine bdc fun j9 => ?_
          show G 117 27 [some (.inr (.inr x0)), some (.inr (.inr x1)), some (.inr (.inr x2))] [.inr (.inl j9), .inr (.inl j6), .inr (.inr r3)] u8.2 = _
          refine Eq.trans (e1 hG PT_117 k117_27 _ _ _) ?_
          show G 117 28 [some (.inr (.inr x0)), some (.inr (.inr x1)), some (.inr (.inr x2))] [.inr (.inr x1), .inr (.inl j9), .inr (.inl j6), .inr (.inr r3)] u8.2 = _
          refine Eq.trans (e1 hG PT_117 k117_28 _ _ _) ?_
          show G 117 29 [some (.inr (.inr x0)), some (.inr (.inr x1)), some (.inr (.inr x2))] [.inr (.inr x0), .inr (.inr x1), .inr (.inl j9), .inr (.inl j6), .inr (.inr r3)] u8.2 = _
          refine Eq.trans (e1 hG PT_117 k117_29 _ _ _) ?_
          refine bdc fun i10 => ?_
          show G 117 32 [some (.inr (.inr x0)), some (.inr (.inr x1)), some (.inr (.inr x2))] [.inl i10, .inr (.inr x1), .inr (.inl j9), .inr (.inl j6), .inr (.inr r3)] u8.2 = _
          refine Eq.trans (e1 hG PT_117 k117_32 _ _ _) ?_
          show G 117 33 [some (.inr (.inr x0)), some (.inr (.inr x1)), some (.inr (.inr x2))] [.inl 1, .inl i10, .inr (.inr x1), .inr (.inl j9), .inr (.inl j6), .inr (.inr r3)] u8.2 = _
          refine Eq.trans (e1 hG PT_117 k117_33 _ _ _) ?_
          show G 117 34 [some (.inr (.inr x0)), some (.inr (.inr x1)), some (.inr (.inr x2))] [.inl (i10 + 1), .inr (.inr x1), .inr (.inl j9), .inr (.inl j6), .inr (.inr r3)] u8.2 = _
          refine Eq.trans (e1 hG PT_117 k117_34 _ _ _) ?_
          refine bfc ?_ ?_
          · refine bdc fun u11 => ?_
            refine bdc fun _ => ?_
            show G 117 37 [some (.inr (.inr x0)), some (.inr (.inr x1)), some (.inr (.inr x2))] [] u11.2 = _
            refine Eq.trans (e1 hG PT_117 k117_37 _ _ _) ?_
            show G 117 38 [some (.inr (.inr x0)), some (.inr (.inr x1)), some (.inr (.inr x2))] [.inr (.inr x0)] u11.2 = _
            refine Eq.trans (e1 hG PT_117 k117_38 _ _ _) ?_
            show G 117 39 [some (.inr (.inr x0)), some (.inr (.inr x1)), some (.inr (.inr x2))] [.inr (.inr x2), .inr (.inr x0)] u11.2 = _
            refine Eq.trans (e1 hG PT_117 k117_39 _ _ _) ?_
            refine bdc fun r12 => ?_
            show G 117 42 [some (.inr (.inr x0)), some (.inr (.inr x1)), some (.inr (.inr x2))] [.inr (.inr r12), .inr (.inr x0)] u11.2 = _
            refine Eq.trans (e1 hG PT_117 k117_42 _ _ _) ?_
            refine bdc fun H13 => ?_
            show G 117 45 [some (.inr (.inr x0)), some (.inr (.inr x1)), some (.inr (.inr x2))] [] H13 = _
            refine Eq.trans (e1 hG PT_117 k117_45 _ _ _) ?_
            show G 117 46 [some (.inr (.inr x0)), some (.inr (.inr x1)), some (.inr (.inr x2))] [.inr (.inr x0)] H13 = _
            refine Eq.trans (e1 hG PT_117 k117_46 _ _ _) ?_
            show G 117 47 [some (.inr (.inr x0)), some (.inr (.inr x1)), some (.inr (.inr x2))] [.inl 0, .inr (.inr x0)] H13 = _
            refine Eq.trans (e1 hG PT_117 k117_47 _ _ _) ?_
            refine bdc fun H14 => ?_
            rfl
          · rfl
        · rfl
      · rfl
  · rfl
theorem b117_50 {G : AG} (hG : FIX G) (x0 : Nat) (x1 : Nat) (x2 : Nat) (H : Hp) : G 117 50 [some (.inr (.inr x0)), some (.inr (.inr x1)), some (.inr (.inr x2))] [] H = (some (none, H)) := by
  exact e1 hG PT_117 k117_50 _ _ _
-- StepsAhead$Runner.choose(LStepsAhead$Either;)V
theorem PT_118 : PT 118 = pt118 := rfl
theorem k118_0 : lkp pt118 0 = iP 1 (fAld 0) := rfl
theorem k118_1 : lkp pt118 1 = iCK 4 8 116 1 1 1 := rfl
theorem k118_4 : lkp pt118 4 = iB 7 8 (b1 (fun x => decide (x ≠ 0))) := rfl
theorem k118_7 : lkp pt118 7 = iRet rV := rfl
theorem k118_8 : lkp pt118 8 = iP 9 (fAld 0) := rfl
theorem k118_9 : lkp pt118 9 = iP 10 fDup := rfl
theorem k118_10 : lkp pt118 10 = iRI 13 (gtI 39) := rfl
theorem k118_13 : lkp pt118 13 = iP 14 (fK (.inl 1)) := rfl
theorem k118_14 : lkp pt118 14 = iP 15 (f2I (fun x y => x + y)) := rfl
theorem k118_15 : lkp pt118 15 = iW 18 (ptI 39) := rfl
theorem k118_18 : lkp pt118 18 = iP 19 (fAld 0) := rfl
theorem k118_19 : lkp pt118 19 = iCK 22 8 119 1 1 1 := rfl
theorem k118_22 : lkp pt118 22 = iB 25 41 (b1 (fun x => decide (x = 0))) := rfl
theorem k118_25 : lkp pt118 25 = iP 26 (fAld 1) := rfl
theorem k118_26 : lkp pt118 26 = iP 27 (fAld 0) := rfl
theorem k118_27 : lkp pt118 27 = iRI 30 (gtI 35) := rfl
theorem k118_30 : lkp pt118 30 = iW 33 (ptI 9) := rfl
theorem k118_33 : lkp pt118 33 = iP 34 (fAld 0) := rfl
theorem k118_34 : lkp pt118 34 = iP 35 (fK (.inl 0)) := rfl
theorem k118_35 : lkp pt118 35 = iW 38 (ptI 35) := rfl
theorem k118_38 : lkp pt118 38 = iP 74 fGo := rfl
theorem k118_41 : lkp pt118 41 = iP 42 (fAld 0) := rfl
theorem k118_42 : lkp pt118 42 = iRI 45 (gtI 34) := rfl
theorem k118_45 : lkp pt118 45 = iP 46 (fK (.inl 1)) := rfl
theorem k118_46 : lkp pt118 46 = iB 49 64 (b2 (fun x y => decide (x = y))) := rfl
theorem k118_49 : lkp pt118 49 = iP 50 (fAld 0) := rfl
theorem k118_50 : lkp pt118 50 = iRI 53 (gtI 34) := rfl
theorem k118_53 : lkp pt118 53 = iP 54 (fK (.inl 2)) := rfl
theorem k118_54 : lkp pt118 54 = iB 57 74 (b2 (fun x y => decide (x ≠ y))) := rfl
theorem k118_57 : lkp pt118 57 = iP 58 (fAld 0) := rfl
theorem k118_58 : lkp pt118 58 = iCK 61 8 120 1 1 1 := rfl
theorem k118_61 : lkp pt118 61 = iB 64 74 (b1 (fun x => decide (x = 0))) := rfl
theorem k118_64 : lkp pt118 64 = iP 65 (fAld 0) := rfl
theorem k118_65 : lkp pt118 65 = iP 66 (fAld 1) := rfl
theorem k118_66 : lkp pt118 66 = iRI 69 (gtI 7) := rfl
theorem k118_69 : lkp pt118 69 = iP 70 (fK (.inl 1)) := rfl
theorem k118_70 : lkp pt118 70 = iP 71 (f2I (fun x y => x + y)) := rfl
theorem k118_71 : lkp pt118 71 = iW 74 (ptI 39) := rfl
theorem k118_74 : lkp pt118 74 = iRet rV := rfl
theorem b118_0 {G : AG} (hG : FIX G) (x0 : Nat) (x1 : Nat) (H : Hp) : G 118 0 [some (.inr (.inr x0)), some (.inr (.inr x1))] [] H = (bif Nat.beq (H.1 x0).1 8 then (G 116 0 [some (.inr (.inr x0))] [] H).bind fun u1 => (asI u1.1).bind fun i2 => bif decide ((i2 : Int32) ≠ 0) then (hgI u1.2 x0 39).bind fun i3 => (hpI u1.2 x0 39 ((i3 + 1))).bind fun H4 => bif Nat.beq (H4.1 x0).1 8 then (G 119 0 [some (.inr (.inr x0))] [] H4).bind fun u5 => (asI u5.1).bind fun i6 => bif decide ((i6 : Int32) = 0) then (hgI u5.2 x0 34).bind fun i7 => bif decide ((i7 : Int32) = (1 : Int32)) then G 118 64 [some (.inr (.inr x0)), some (.inr (.inr x1))] [] u5.2 else (hgI u5.2 x0 34).bind fun i8 => bif decide ((i8 : Int32) ≠ (2 : Int32)) then G 118 74 [some (.inr (.inr x0)), some (.inr (.inr x1))] [] u5.2 else bif Nat.beq (u5.2.1 x0).1 8 then (G 120 0 [some (.inr (.inr x0))] [] u5.2).bind fun u9 => (asI u9.1).bind fun i10 => bif decide ((i10 : Int32) = 0) then G 118 74 [some (.inr (.inr x0)), some (.inr (.inr x1))] [] u9.2 else G 118 64 [some (.inr (.inr x0)), some (.inr (.inr x1))] [] u9.2 else none else (hgI u5.2 x0 35).bind fun i11 => (hpI u5.2 x1 9 i11).bind fun H12 => (hpI H12 x0 35 0).bind fun H13 => G 118 74 [some (.inr (.inr x0)), some (.inr (.inr x1))] [] H13 else none else some (none, u1.2) else none) := by
  refine Eq.trans (e1 hG PT_118 k118_0 _ _ _) ?_
  show G 118 1 [some (.inr (.inr x0)), some (.inr (.inr x1))] [.inr (.inr x0)] H = _
  refine Eq.trans (e1 hG PT_118 k118_1 _ _ _) ?_
  refine bfc ?_ ?_
  · refine bdc fun u1 => ?_
    refine bdc fun i2 => ?_
    show G 118 4 [some (.inr (.inr x0)), some (.inr (.inr x1))] [.inl i2] u1.2 = _
    refine Eq.trans (e1 hG PT_118 k118_4 _ _ _) ?_
    refine bfc ?_ ?_
    · show G 118 8 [some (.inr (.inr x0)), some (.inr (.inr x1))] [] u1.2 = _
      refine Eq.trans (e1 hG PT_118 k118_8 _ _ _) ?_
      show G 118 9 [some (.inr (.inr x0)), some (.inr (.inr x1))] [.inr (.inr x0)] u1.2 = _
      refine Eq.trans (e1 hG PT_118 k118_9 _ _ _) ?_
      show G 118 10 [some (.inr (.inr x0)), some (.inr (.inr x1))] [.inr (.inr x0), .inr (.inr x0)] u1.2 = _
      refine Eq.trans (e1 hG PT_118 k118_10 _ _ _) ?_
      refine bdc fun i3 => ?_
      show G 118 13 [some (.inr (.inr x0)), some (.inr (.inr x1))] [.inl i3, .inr (.inr x0)] u1.2 = _
      refine Eq.trans (e1 hG PT_118 k118_13 _ _ _) ?_
      show G 118 14 [some (.inr (.inr x0)), some (.inr (.inr x1))] [.inl 1, .inl i3, .inr (.inr x0)] u1.2 = _
      refine Eq.trans (e1 hG PT_118 k118_14 _ _ _) ?_
      show G 118 15 [some (.inr (.inr x0)), some (.inr (.inr x1))] [.inl (i3 + 1), .inr (.inr x0)] u1.2 = _
      refine Eq.trans (e1 hG PT_118 k118_15 _ _ _) ?_
      refine bdc fun H4 => ?_
      show G 118 18 [some (.inr (.inr x0)), some (.inr (.inr x1))] [] H4 = _
      refine Eq.trans (e1 hG PT_118 k118_18 _ _ _) ?_
      show G 118 19 [some (.inr (.inr x0)), some (.inr (.inr x1))] [.inr (.inr x0)] H4 = _
      refine Eq.trans (e1 hG PT_118 k118_19 _ _ _) ?_
      refine bfc ?_ ?_
      · refine bdc fun u5 => ?_
        refine bdc fun i6 => ?_
        show G 118 22 [some (.inr (.inr x0)), some (.inr (.inr x1))] [.inl i6] u5.2 = _
        refine Eq.trans (e1 hG PT_118 k118_22 _ _ _) ?_
        refine bfc ?_ ?_
        · show G 118 41 [some (.inr (.inr x0)), some (.inr (.inr x1))] [] u5.2 = _
          refine Eq.trans (e1 hG PT_118 k118_41 _ _ _) ?_
          show G 118 42 [some (.inr (.inr x0)), some (.inr (.inr x1))] [.inr (.inr x0)] u5.2 = _
          refine Eq.trans (e1 hG PT_118 k118_42 _ _ _) ?_
          refine bdc fun i7 => ?_
          show G 118 45 [some (.inr (.inr x0)), some (.inr (.inr x1))] [.inl i7] u5.2 = _
          refine Eq.trans (e1 hG PT_118 k118_45 _ _ _) ?_
          show G 118 46 [some (.inr (.inr x0)), some (.inr (.inr x1))] [.inl 1, .inl i7] u5.2 = _
          refine Eq.trans (e1 hG PT_118 k118_46 _ _ _) ?_
          refine bfc ?_ ?_
          · rfl
          · show G 118 49 [some (.inr (.inr x0)), some (.inr (.inr x1))] [] u5.2 = _
            refine Eq.trans (e1 hG PT_118 k118_49 _ _ _) ?_
            show G 118 50 [some (.inr (.inr x0)), some (.inr (.inr x1))] [.inr (.inr x0)] u5.2 = _
            refine Eq.trans (e1 hG PT_118 k118_50 _ _ _) ?_
            refine bdc fun i8 => ?_
            show G 118 53 [some (.inr (.inr x0)), some (.inr (.inr x1))] [.inl i8] u5.2 = _
            refine Eq.trans (e1 hG PT_118 k118_53 _ _ _) ?_
            show G 118 54 [some (.inr (.inr x0)), some (.inr (.inr x1))] [.inl 2, .inl i8] u5.2 = _
            refine Eq.trans (e1 hG PT_118 k118_54 _ _ _) ?_
            refine bfc ?_ ?_
            · rfl
            · show G 118 57 [some (.inr (.inr x0)), some (.inr (.inr x1))] [] u5.2 = _
              refine Eq.trans (e1 hG PT_118 k118_57 _ _ _) ?_
              show G 118 58 [some (.inr (.inr x0)), some (.inr (.inr x1))] [.inr (.inr x0)] u5.2 = _
              refine Eq.trans (e1 hG PT_118 k118_58 _ _ _) ?_
              refine bfc ?_ ?_
              · refine bdc fun u9 => ?_
                refine bdc fun i10 => ?_
                show G 118 61 [some (.inr (.inr x0)), some (.inr (.inr x1))] [.inl i10] u9.2 = _
                refine Eq.trans (e1 hG PT_118 k118_61 _ _ _) ?_
                refine bfc ?_ ?_
                · rfl
                · rfl
              · rfl
        · show G 118 25 [some (.inr (.inr x0)), some (.inr (.inr x1))] [] u5.2 = _
          refine Eq.trans (e1 hG PT_118 k118_25 _ _ _) ?_
          show G 118 26 [some (.inr (.inr x0)), some (.inr (.inr x1))] [.inr (.inr x1)] u5.2 = _
          refine Eq.trans (e1 hG PT_118 k118_26 _ _ _) ?_
          show G 118 27 [some (.inr (.inr x0)), some (.inr (.inr x1))] [.inr (.inr x0), .inr (.inr x1)] u5.2 = _
          refine Eq.trans (e1 hG PT_118 k118_27 _ _ _) ?_
          refine bdc fun i11 => ?_
          show G 118 30 [some (.inr (.inr x0)), some (.inr (.inr x1))] [.inl i11, .inr (.inr x1)] u5.2 = _
          refine Eq.trans (e1 hG PT_118 k118_30 _ _ _) ?_
          refine bdc fun H12 => ?_
          show G 118 33 [some (.inr (.inr x0)), some (.inr (.inr x1))] [] H12 = _
          refine Eq.trans (e1 hG PT_118 k118_33 _ _ _) ?_
          show G 118 34 [some (.inr (.inr x0)), some (.inr (.inr x1))] [.inr (.inr x0)] H12 = _
          refine Eq.trans (e1 hG PT_118 k118_34 _ _ _) ?_
          show G 118 35 [some (.inr (.inr x0)), some (.inr (.inr x1))] [.inl 0, .inr (.inr x0)] H12 = _
          refine Eq.trans (e1 hG PT_118 k118_35 _ _ _) ?_
          refine bdc fun H13 => ?_
          show G 118 38 [some (.inr (.inr x0)), some (.inr (.inr x1))] [] H13 = _
          refine Eq.trans (e1 hG PT_118 k118_38 _ _ _) ?_
          rfl
      · rfl
    · show G 118 7 [some (.inr (.inr x0)), some (.inr (.inr x1))] [] u1.2 = _
      exact e1 hG PT_118 k118_7 _ _ _
  · rfl
theorem b118_64 {G : AG} (hG : FIX G) (x0 : Nat) (x1 : Nat) (H : Hp) : G 118 64 [some (.inr (.inr x0)), some (.inr (.inr x1))] [] H = ((hgI H x1 7).bind fun i1 => (hpI H x0 39 ((i1 + 1))).bind fun H2 => G 118 74 [some (.inr (.inr x0)), some (.inr (.inr x1))] [] H2) := by
  refine Eq.trans (e1 hG PT_118 k118_64 _ _ _) ?_
  show G 118 65 [some (.inr (.inr x0)), some (.inr (.inr x1))] [.inr (.inr x0)] H = _
  refine Eq.trans (e1 hG PT_118 k118_65 _ _ _) ?_
  show G 118 66 [some (.inr (.inr x0)), some (.inr (.inr x1))] [.inr (.inr x1), .inr (.inr x0)] H = _
  refine Eq.trans (e1 hG PT_118 k118_66 _ _ _) ?_
  refine bdc fun i1 => ?_
  show G 118 69 [some (.inr (.inr x0)), some (.inr (.inr x1))] [.inl i1, .inr (.inr x0)] H = _
  refine Eq.trans (e1 hG PT_118 k118_69 _ _ _) ?_
  show G 118 70 [some (.inr (.inr x0)), some (.inr (.inr x1))] [.inl 1, .inl i1, .inr (.inr x0)] H = _
  refine Eq.trans (e1 hG PT_118 k118_70 _ _ _) ?_
  show G 118 71 [some (.inr (.inr x0)), some (.inr (.inr x1))] [.inl (i1 + 1), .inr (.inr x0)] H = _
  refine Eq.trans (e1 hG PT_118 k118_71 _ _ _) ?_
  refine bdc fun H2 => ?_
  rfl
theorem b118_74 {G : AG} (hG : FIX G) (x0 : Nat) (x1 : Nat) (H : Hp) : G 118 74 [some (.inr (.inr x0)), some (.inr (.inr x1))] [] H = (some (none, H)) := by
  exact e1 hG PT_118 k118_74 _ _ _
-- StepsAhead$Runner.doesBoth()Z
theorem PT_119 : PT 119 = pt119 := rfl
theorem k119_0 : lkp pt119 0 = iP 1 (fAld 0) := rfl
theorem k119_1 : lkp pt119 1 = iRI 4 (gtI 34) := rfl
theorem k119_4 : lkp pt119 4 = iP 5 (fK (.inl 3)) := rfl
theorem k119_5 : lkp pt119 5 = iB 8 16 (b2 (fun x y => decide (x = y))) := rfl
theorem k119_8 : lkp pt119 8 = iP 9 (fAld 0) := rfl
theorem k119_9 : lkp pt119 9 = iRI 12 (gtI 34) := rfl
theorem k119_12 : lkp pt119 12 = iP 13 (fK (.inl 4)) := rfl
theorem k119_13 : lkp pt119 13 = iB 16 20 (b2 (fun x y => decide (x ≠ y))) := rfl
theorem k119_16 : lkp pt119 16 = iP 17 (fK (.inl 1)) := rfl
theorem k119_17 : lkp pt119 17 = iP 21 fGo := rfl
theorem k119_20 : lkp pt119 20 = iP 21 (fK (.inl 0)) := rfl
theorem k119_21 : lkp pt119 21 = iRet rZ := rfl
theorem b119_0 {G : AG} (hG : FIX G) (x0 : Nat) (H : Hp) : G 119 0 [some (.inr (.inr x0))] [] H = ((hgI H x0 34).bind fun i1 => bif decide ((i1 : Int32) = (3 : Int32)) then G 119 16 [some (.inr (.inr x0))] [] H else (hgI H x0 34).bind fun i2 => bif decide ((i2 : Int32) ≠ (4 : Int32)) then G 119 21 [some (.inr (.inr x0))] [.inl 0] H else G 119 16 [some (.inr (.inr x0))] [] H) := by
  refine Eq.trans (e1 hG PT_119 k119_0 _ _ _) ?_
  show G 119 1 [some (.inr (.inr x0))] [.inr (.inr x0)] H = _
  refine Eq.trans (e1 hG PT_119 k119_1 _ _ _) ?_
  refine bdc fun i1 => ?_
  show G 119 4 [some (.inr (.inr x0))] [.inl i1] H = _
  refine Eq.trans (e1 hG PT_119 k119_4 _ _ _) ?_
  show G 119 5 [some (.inr (.inr x0))] [.inl 3, .inl i1] H = _
  refine Eq.trans (e1 hG PT_119 k119_5 _ _ _) ?_
  refine bfc ?_ ?_
  · rfl
  · show G 119 8 [some (.inr (.inr x0))] [] H = _
    refine Eq.trans (e1 hG PT_119 k119_8 _ _ _) ?_
    show G 119 9 [some (.inr (.inr x0))] [.inr (.inr x0)] H = _
    refine Eq.trans (e1 hG PT_119 k119_9 _ _ _) ?_
    refine bdc fun i2 => ?_
    show G 119 12 [some (.inr (.inr x0))] [.inl i2] H = _
    refine Eq.trans (e1 hG PT_119 k119_12 _ _ _) ?_
    show G 119 13 [some (.inr (.inr x0))] [.inl 4, .inl i2] H = _
    refine Eq.trans (e1 hG PT_119 k119_13 _ _ _) ?_
    refine bfc ?_ ?_
    · show G 119 20 [some (.inr (.inr x0))] [] H = _
      refine Eq.trans (e1 hG PT_119 k119_20 _ _ _) ?_
      rfl
    · rfl
theorem b119_16 {G : AG} (hG : FIX G) (x0 : Nat) (H : Hp) : G 119 16 [some (.inr (.inr x0))] [] H = (G 119 21 [some (.inr (.inr x0))] [.inl 1] H) := by
  refine Eq.trans (e1 hG PT_119 k119_16 _ _ _) ?_
  show G 119 17 [some (.inr (.inr x0))] [.inl 1] H = _
  refine Eq.trans (e1 hG PT_119 k119_17 _ _ _) ?_
  rfl
theorem b119_21 {G : AG} (hG : FIX G) (x0 : Nat) (s0 : Int32) (H : Hp) : G 119 21 [some (.inr (.inr x0))] [.inl s0] H = (retZ s0 H) := by
  exact e1 hG PT_119 k119_21 _ _ _
-- StepsAhead$Runner.lotTellsSecond()Z
theorem PT_120 : PT 120 = pt120 := rfl
theorem k120_0 : lkp pt120 0 = iP 1 (fAld 0) := rfl
theorem k120_1 : lkp pt120 1 = iP 2 (fAld 0) := rfl
theorem k120_2 : lkp pt120 2 = iRI 5 (gtI 33) := rfl
theorem k120_5 : lkp pt120 5 = iP 7 (fK (.inl 1103515245)) := rfl
theorem k120_7 : lkp pt120 7 = iP 8 (f2I (fun x y => x * y)) := rfl
theorem k120_8 : lkp pt120 8 = iP 11 (fK (.inl 12345)) := rfl
theorem k120_11 : lkp pt120 11 = iP 12 (f2I (fun x y => x + y)) := rfl
theorem k120_12 : lkp pt120 12 = iW 15 (ptI 33) := rfl
theorem k120_15 : lkp pt120 15 = iP 16 (fAld 0) := rfl
theorem k120_16 : lkp pt120 16 = iRI 19 (gtI 33) := rfl
theorem k120_19 : lkp pt120 19 = iP 21 (fK (.inl 16)) := rfl
theorem k120_21 : lkp pt120 21 = iP 22 (f2I (fun x y => x >>> (y &&& 31))) := rfl
theorem k120_22 : lkp pt120 22 = iP 23 (fK (.inl 1)) := rfl
theorem k120_23 : lkp pt120 23 = iP 24 (f2I (fun x y => x &&& y)) := rfl
theorem k120_24 : lkp pt120 24 = iB 27 31 (b1 (fun x => decide (x = 0))) := rfl
theorem k120_27 : lkp pt120 27 = iP 28 (fK (.inl 1)) := rfl
theorem k120_28 : lkp pt120 28 = iP 32 fGo := rfl
theorem k120_31 : lkp pt120 31 = iP 32 (fK (.inl 0)) := rfl
theorem k120_32 : lkp pt120 32 = iRet rZ := rfl
theorem b120_0 {G : AG} (hG : FIX G) (x0 : Nat) (H : Hp) : G 120 0 [some (.inr (.inr x0))] [] H = ((hgI H x0 33).bind fun i1 => (hpI H x0 33 (((i1 * 1103515245) + 12345))).bind fun H2 => (hgI H2 x0 33).bind fun i3 => bif decide ((((i3 >>> (16 &&& 31)) &&& 1) : Int32) = 0) then G 120 32 [some (.inr (.inr x0))] [.inl 0] H2 else G 120 32 [some (.inr (.inr x0))] [.inl 1] H2) := by
  refine Eq.trans (e1 hG PT_120 k120_0 _ _ _) ?_
  show G 120 1 [some (.inr (.inr x0))] [.inr (.inr x0)] H = _
  refine Eq.trans (e1 hG PT_120 k120_1 _ _ _) ?_
  show G 120 2 [some (.inr (.inr x0))] [.inr (.inr x0), .inr (.inr x0)] H = _
  refine Eq.trans (e1 hG PT_120 k120_2 _ _ _) ?_
  refine bdc fun i1 => ?_
  show G 120 5 [some (.inr (.inr x0))] [.inl i1, .inr (.inr x0)] H = _
  refine Eq.trans (e1 hG PT_120 k120_5 _ _ _) ?_
  show G 120 7 [some (.inr (.inr x0))] [.inl 1103515245, .inl i1, .inr (.inr x0)] H = _
  refine Eq.trans (e1 hG PT_120 k120_7 _ _ _) ?_
  show G 120 8 [some (.inr (.inr x0))] [.inl (i1 * 1103515245), .inr (.inr x0)] H = _
  refine Eq.trans (e1 hG PT_120 k120_8 _ _ _) ?_
  show G 120 11 [some (.inr (.inr x0))] [.inl 12345, .inl (i1 * 1103515245), .inr (.inr x0)] H = _
  refine Eq.trans (e1 hG PT_120 k120_11 _ _ _) ?_
  show G 120 12 [some (.inr (.inr x0))] [.inl ((i1 * 1103515245) + 12345), .inr (.inr x0)] H = _
  refine Eq.trans (e1 hG PT_120 k120_12 _ _ _) ?_
  refine bdc fun H2 => ?_
  show G 120 15 [some (.inr (.inr x0))] [] H2 = _
  refine Eq.trans (e1 hG PT_120 k120_15 _ _ _) ?_
  show G 120 16 [some (.inr (.inr x0))] [.inr (.inr x0)] H2 = _
  refine Eq.trans (e1 hG PT_120 k120_16 _ _ _) ?_
  refine bdc fun i3 => ?_
  show G 120 19 [some (.inr (.inr x0))] [.inl i3] H2 = _
  refine Eq.trans (e1 hG PT_120 k120_19 _ _ _) ?_
  show G 120 21 [some (.inr (.inr x0))] [.inl 16, .inl i3] H2 = _
  refine Eq.trans (e1 hG PT_120 k120_21 _ _ _) ?_
  show G 120 22 [some (.inr (.inr x0))] [.inl (i3 >>> (16 &&& 31))] H2 = _
  refine Eq.trans (e1 hG PT_120 k120_22 _ _ _) ?_
  show G 120 23 [some (.inr (.inr x0))] [.inl 1, .inl (i3 >>> (16 &&& 31))] H2 = _
  refine Eq.trans (e1 hG PT_120 k120_23 _ _ _) ?_
  show G 120 24 [some (.inr (.inr x0))] [.inl ((i3 >>> (16 &&& 31)) &&& 1)] H2 = _
  refine Eq.trans (e1 hG PT_120 k120_24 _ _ _) ?_
  refine bfc ?_ ?_
  · show G 120 31 [some (.inr (.inr x0))] [] H2 = _
    refine Eq.trans (e1 hG PT_120 k120_31 _ _ _) ?_
    rfl
  · show G 120 27 [some (.inr (.inr x0))] [] H2 = _
    refine Eq.trans (e1 hG PT_120 k120_27 _ _ _) ?_
    show G 120 28 [some (.inr (.inr x0))] [.inl 1] H2 = _
    refine Eq.trans (e1 hG PT_120 k120_28 _ _ _) ?_
    rfl
theorem b120_32 {G : AG} (hG : FIX G) (x0 : Nat) (s0 : Int32) (H : Hp) : G 120 32 [some (.inr (.inr x0))] [.inl s0] H = (retZ s0 H) := by
  exact e1 hG PT_120 k120_32 _ _ _
-- StepsAhead$Runner.passClosing(LStepsAhead$Routine;LStepsAhead$Op;LStepsAhead$Op;)V
theorem PT_121 : PT 121 = pt121 := rfl
theorem k121_0 : lkp pt121 0 = iP 1 (fAld 0) := rfl
theorem k121_1 : lkp pt121 1 = iP 2 fDup := rfl
theorem k121_2 : lkp pt121 2 = iRI 5 (gtI 39) := rfl
theorem k121_5 : lkp pt121 5 = iP 6 (fK (.inl 1)) := rfl
theorem k121_6 : lkp pt121 6 = iP 7 (f2I (fun x y => x + y)) := rfl
theorem k121_7 : lkp pt121 7 = iW 10 (ptI 39) := rfl
theorem k121_10 : lkp pt121 10 = iP 11 (fAld 3) := rfl
theorem k121_11 : lkp pt121 11 = iRI 14 (qInst [3] [1, 2, 4, 10]) := rfl
theorem k121_14 : lkp pt121 14 = iB 17 33 (b1 (fun x => decide (x = 0))) := rfl
theorem k121_17 : lkp pt121 17 = iP 18 (fAld 3) := rfl
theorem k121_18 : lkp pt121 18 = iRR 21 (qCast [3]) := rfl
theorem k121_21 : lkp pt121 21 = iP 23 (fAst 4) := rfl
theorem k121_23 : lkp pt121 23 = iP 24 (fAld 0) := rfl
theorem k121_24 : lkp pt121 24 = iP 25 (fAld 1) := rfl
theorem k121_25 : lkp pt121 25 = iP 27 (fAld 4) := rfl
theorem k121_27 : lkp pt121 27 = iCK 30 8 113 5 3 0 := rfl
theorem k121_30 : lkp pt121 30 = iP 99 fGo := rfl
theorem k121_33 : lkp pt121 33 = iP 34 (fAld 3) := rfl
theorem k121_34 : lkp pt121 34 = iRI 37 (qInst [2] [1, 3, 4, 10]) := rfl
theorem k121_37 : lkp pt121 37 = iB 40 66 (b1 (fun x => decide (x = 0))) := rfl
theorem k121_40 : lkp pt121 40 = iP 41 (fAld 3) := rfl
theorem k121_41 : lkp pt121 41 = iRR 44 (qCast [2]) := rfl
theorem k121_44 : lkp pt121 44 = iP 46 (fAst 5) := rfl
theorem k121_46 : lkp pt121 46 = iP 47 (fAld 0) := rfl
theorem k121_47 : lkp pt121 47 = iCK 50 8 119 1 1 1 := rfl
theorem k121_50 : lkp pt121 50 = iB 53 66 (b1 (fun x => decide (x = 0))) := rfl
theorem k121_53 : lkp pt121 53 = iP 54 (fAld 0) := rfl
theorem k121_54 : lkp pt121 54 = iP 56 (fAld 5) := rfl
theorem k121_56 : lkp pt121 56 = iP 57 (fAld 2) := rfl
theorem k121_57 : lkp pt121 57 = iRI 60 (gtI 1) := rfl
theorem k121_60 : lkp pt121 60 = iCK 63 8 122 4 3 0 := rfl
theorem k121_63 : lkp pt121 63 = iP 99 fGo := rfl
theorem k121_66 : lkp pt121 66 = iP 67 (fAld 3) := rfl
theorem k121_67 : lkp pt121 67 = iRI 70 (qInst [2] [1, 3, 4, 10]) := rfl
theorem k121_70 : lkp pt121 70 = iB 73 99 (b1 (fun x => decide (x = 0))) := rfl
theorem k121_73 : lkp pt121 73 = iP 74 (fAld 3) := rfl
theorem k121_74 : lkp pt121 74 = iRR 77 (qCast [2]) := rfl
theorem k121_77 : lkp pt121 77 = iP 79 (fAst 6) := rfl
theorem k121_79 : lkp pt121 79 = iP 80 (fAld 2) := rfl
theorem k121_80 : lkp pt121 80 = iRI 83 (gtI 1) := rfl
theorem k121_83 : lkp pt121 83 = iP 85 (fK (.inl 7)) := rfl
theorem k121_85 : lkp pt121 85 = iB 88 99 (b2 (fun x y => decide (x ≠ y))) := rfl
theorem k121_88 : lkp pt121 88 = iP 89 (fAld 0) := rfl
theorem k121_89 : lkp pt121 89 = iP 91 (fAld 6) := rfl
theorem k121_91 : lkp pt121 91 = iRI 94 (gtI 8) := rfl
theorem k121_94 : lkp pt121 94 = iP 95 (fK (.inl 1)) := rfl
theorem k121_95 : lkp pt121 95 = iP 96 (f2I (fun x y => x + y)) := rfl
theorem k121_96 : lkp pt121 96 = iW 99 (ptI 39) := rfl
theorem k121_99 : lkp pt121 99 = iRet rV := rfl
theorem b121_0 {G : AG} (hG : FIX G) (x0 : Nat) (x1 : Nat) (x2 : Nat) (x3 : Nat) (H : Hp) : G 121 0 [some (.inr (.inr x0)), some (.inr (.inr x1)), some (.inr (.inr x2)), some (.inr (.inr x3)), none, none, none] [] H = ((hgI H x0 39).bind fun i1 => (hpI H x0 39 ((i1 + 1))).bind fun H2 => ((bif Nat.beq x3 0 then some (0 : Int32) else bif [3].any (Nat.beq (H2.1 x3).1) then some 1 else bif [1, 2, 4, 10].any (Nat.beq (H2.1 x3).1) then some 0 else none)).bind fun i3 => bif decide ((i3 : Int32) = 0) then ((bif Nat.beq x3 0 then some (0 : Int32) else bif [2].any (Nat.beq (H2.1 x3).1) then some 1 else bif [1, 3, 4, 10].any (Nat.beq (H2.1 x3).1) then some 0 else none)).bind fun i4 => bif decide ((i4 : Int32) = 0) then G 121 66 [some (.inr (.inr x0)), some (.inr (.inr x1)), some (.inr (.inr x2)), some (.inr (.inr x3)), none, none, none] [] H2 else ((bif Nat.beq x3 0 || [2].any (Nat.beq (H2.1 x3).1) then some x3 else none)).bind fun r5 => bif Nat.beq (H2.1 x0).1 8 then (G 119 0 [some (.inr (.inr x0))] [] H2).bind fun u6 => (asI u6.1).bind fun i7 => bif decide ((i7 : Int32) = 0) then G 121 66 [some (.inr (.inr x0)), some (.inr (.inr x1)), some (.inr (.inr x2)), some (.inr (.inr x3)), none, some (.inr (.inr r5)), none] [] u6.2 else (hgI u6.2 x2 1).bind fun i8 => bif Nat.beq (u6.2.1 x0).1 8 then (G 122 0 [some (.inr (.inr x0)), some (.inr (.inr r5)), some (.inl i8), none] [] u6.2).bind fun u9 => (asV u9.1).bind fun _ => G 121 99 [some (.inr (.inr x0)), some (.inr (.inr x1)), some (.inr (.inr x2)), some (.inr (.inr x3)), none, some (.inr (.inr r5)), none] [] u9.2 else none else none else ((bif Nat.beq x3 0 || [3].any (Nat.beq (H2.1 x3).1) then some x3 else none)).bind fun r10 => bif Nat.beq (H2.1 x0).1 8 then (G 113 0 [some (.inr (.inr x0)), some (.inr (.inr x1)), some (.inr (.inr r10)), none, none] [] H2).bind fun u11 => (asV u11.1).bind fun _ => G 121 99 [some (.inr (.inr x0)), some (.inr (.inr x1)), some (.inr (.inr x2)), some (.inr (.inr x3)), some (.inr (.inr r10)), none, none] [] u11.2 else none) := by
  refine Eq.trans (e1 hG PT_121 k121_0 _ _ _) ?_
  show G 121 1 [some (.inr (.inr x0)), some (.inr (.inr x1)), some (.inr (.inr x2)), some (.inr (.inr x3)), none, none, none] [.inr (.inr x0)] H = _
  refine Eq.trans (e1 hG PT_121 k121_1 _ _ _) ?_
  show G 121 2 [some (.inr (.inr x0)), some (.inr (.inr x1)), some (.inr (.inr x2)), some (.inr (.inr x3)), none, none, none] [.inr (.inr x0), .inr (.inr x0)] H = _
  refine Eq.trans (e1 hG PT_121 k121_2 _ _ _) ?_
  refine bdc fun i1 => ?_
  show G 121 5 [some (.inr (.inr x0)), some (.inr (.inr x1)), some (.inr (.inr x2)), some (.inr (.inr x3)), none, none, none] [.inl i1, .inr (.inr x0)] H = _
  refine Eq.trans (e1 hG PT_121 k121_5 _ _ _) ?_
  show G 121 6 [some (.inr (.inr x0)), some (.inr (.inr x1)), some (.inr (.inr x2)), some (.inr (.inr x3)), none, none, none] [.inl 1, .inl i1, .inr (.inr x0)] H = _
  refine Eq.trans (e1 hG PT_121 k121_6 _ _ _) ?_
  show G 121 7 [some (.inr (.inr x0)), some (.inr (.inr x1)), some (.inr (.inr x2)), some (.inr (.inr x3)), none, none, none] [.inl (i1 + 1), .inr (.inr x0)] H = _
  refine Eq.trans (e1 hG PT_121 k121_7 _ _ _) ?_
  refine bdc fun H2 => ?_
  show G 121 10 [some (.inr (.inr x0)), some (.inr (.inr x1)), some (.inr (.inr x2)), some (.inr (.inr x3)), none, none, none] [] H2 = _
  refine Eq.trans (e1 hG PT_121 k121_10 _ _ _) ?_
  show G 121 11 [some (.inr (.inr x0)), some (.inr (.inr x1)), some (.inr (.inr x2)), some (.inr (.inr x3)), none, none, none] [.inr (.inr x3)] H2 = _
  refine Eq.trans (e1 hG PT_121 k121_11 _ _ _) ?_
  refine bdc fun i3 => ?_
  show G 121 14 [some (.inr (.inr x0)), some (.inr (.inr x1)), some (.inr (.inr x2)), some (.inr (.inr x3)), none, none, none] [.inl i3] H2 = _
  refine Eq.trans (e1 hG PT_121 k121_14 _ _ _) ?_
  refine bfc ?_ ?_
  · show G 121 33 [some (.inr (.inr x0)), some (.inr (.inr x1)), some (.inr (.inr x2)), some (.inr (.inr x3)), none, none, none] [] H2 = _
    refine Eq.trans (e1 hG PT_121 k121_33 _ _ _) ?_
    show G 121 34 [some (.inr (.inr x0)), some (.inr (.inr x1)), some (.inr (.inr x2)), some (.inr (.inr x3)), none, none, none] [.inr (.inr x3)] H2 = _
    refine Eq.trans (e1 hG PT_121 k121_34 _ _ _) ?_
    refine bdc fun i4 => ?_
    show G 121 37 [some (.inr (.inr x0)), some (.inr (.inr x1)), some (.inr (.inr x2)), some (.inr (.inr x3)), none, none, none] [.inl i4] H2 = _
    refine Eq.trans (e1 hG PT_121 k121_37 _ _ _) ?_
    refine bfc ?_ ?_
    · rfl
    · show G 121 40 [some (.inr (.inr x0)), some (.inr (.inr x1)), some (.inr (.inr x2)), some (.inr (.inr x3)), none, none, none] [] H2 = _
      refine Eq.trans (e1 hG PT_121 k121_40 _ _ _) ?_
      show G 121 41 [some (.inr (.inr x0)), some (.inr (.inr x1)), some (.inr (.inr x2)), some (.inr (.inr x3)), none, none, none] [.inr (.inr x3)] H2 = _
      refine Eq.trans (e1 hG PT_121 k121_41 _ _ _) ?_
      refine bdc fun r5 => ?_
      show G 121 44 [some (.inr (.inr x0)), some (.inr (.inr x1)), some (.inr (.inr x2)), some (.inr (.inr x3)), none, none, none] [.inr (.inr r5)] H2 = _
      refine Eq.trans (e1 hG PT_121 k121_44 _ _ _) ?_
      show G 121 46 [some (.inr (.inr x0)), some (.inr (.inr x1)), some (.inr (.inr x2)), some (.inr (.inr x3)), none, some (.inr (.inr r5)), none] [] H2 = _
      refine Eq.trans (e1 hG PT_121 k121_46 _ _ _) ?_
      show G 121 47 [some (.inr (.inr x0)), some (.inr (.inr x1)), some (.inr (.inr x2)), some (.inr (.inr x3)), none, some (.inr (.inr r5)), none] [.inr (.inr x0)] H2 = _
      refine Eq.trans (e1 hG PT_121 k121_47 _ _ _) ?_
      refine bfc ?_ ?_
      · refine bdc fun u6 => ?_
        refine bdc fun i7 => ?_
        show G 121 50 [some (.inr (.inr x0)), some (.inr (.inr x1)), some (.inr (.inr x2)), some (.inr (.inr x3)), none, some (.inr (.inr r5)), none] [.inl i7] u6.2 = _
        refine Eq.trans (e1 hG PT_121 k121_50 _ _ _) ?_
        refine bfc ?_ ?_
        · rfl
        · show G 121 53 [some (.inr (.inr x0)), some (.inr (.inr x1)), some (.inr (.inr x2)), some (.inr (.inr x3)), none, some (.inr (.inr r5)), none] [] u6.2 = _
          refine Eq.trans (e1 hG PT_121 k121_53 _ _ _) ?_
          show G 121 54 [some (.inr (.inr x0)), some (.inr (.inr x1)), some (.inr (.inr x2)), some (.inr (.inr x3)), none, some (.inr (.inr r5)), none] [.inr (.inr x0)] u6.2 = _
          refine Eq.trans (e1 hG PT_121 k121_54 _ _ _) ?_
          show G 121 56 [some (.inr (.inr x0)), some (.inr (.inr x1)), some (.inr (.inr x2)), some (.inr (.inr x3)), none, some (.inr (.inr r5)), none] [.inr (.inr r5), .inr (.inr x0)] u6.2 = _
          refine Eq.trans (e1 hG PT_121 k121_56 _ _ _) ?_
          show G 121 57 [some (.inr (.inr x0)), some (.inr (.inr x1)), some (.inr (.inr x2)), some (.inr (.inr x3)), none, some (.inr (.inr r5)), none] [.inr (.inr x2), .inr (.inr r5), .inr (.inr x0)] u6.2 = _
          refine Eq.trans (e1 hG PT_121 k121_57 _ _ _) ?_
          refine bdc fun i8 => ?_
          show G 121 60 [some (.inr (.inr x0)), some (.inr (.inr x1)), some (.inr (.inr x2)), some (.inr (.inr x3)), none, some (.inr (.inr r5)), none] [.inl i8, .inr (.inr r5), .inr (.inr x0)] u6.2 = _
          refine Eq.trans (e1 hG PT_121 k121_60 _ _ _) ?_
          refine bfc ?_ ?_
          · refine bdc fun u9 => ?_
            refine bdc fun _ => ?_
            show G 121 63 [some (.inr (.inr x0)), some (.inr (.inr x1)), some (.inr (.inr x2)), some (.inr (.inr x3)), none, some (.inr (.inr r5)), none] [] u9.2 = _
            refine Eq.trans (e1 hG PT_121 k121_63 _ _ _) ?_
            rfl
          · rfl
      · rfl
  · show G 121 17 [some (.inr (.inr x0)), some (.inr (.inr x1)), some (.inr (.inr x2)), some (.inr (.inr x3)), none, none, none] [] H2 = _
    refine Eq.trans (e1 hG PT_121 k121_17 _ _ _) ?_
    show G 121 18 [some (.inr (.inr x0)), some (.inr (.inr x1)), some (.inr (.inr x2)), some (.inr (.inr x3)), none, none, none] [.inr (.inr x3)] H2 = _
    refine Eq.trans (e1 hG PT_121 k121_18 _ _ _) ?_
    refine bdc fun r10 => ?_
    show G 121 21 [some (.inr (.inr x0)), some (.inr (.inr x1)), some (.inr (.inr x2)), some (.inr (.inr x3)), none, none, none] [.inr (.inr r10)] H2 = _
    refine Eq.trans (e1 hG PT_121 k121_21 _ _ _) ?_
    show G 121 23 [some (.inr (.inr x0)), some (.inr (.inr x1)), some (.inr (.inr x2)), some (.inr (.inr x3)), some (.inr (.inr r10)), none, none] [] H2 = _
    refine Eq.trans (e1 hG PT_121 k121_23 _ _ _) ?_
    show G 121 24 [some (.inr (.inr x0)), some (.inr (.inr x1)), some (.inr (.inr x2)), some (.inr (.inr x3)), some (.inr (.inr r10)), none, none] [.inr (.inr x0)] H2 = _
    refine Eq.trans (e1 hG PT_121 k121_24 _ _ _) ?_
    show G 121 25 [some (.inr (.inr x0)), some (.inr (.inr x1)), some (.inr (.inr x2)), some (.inr (.inr x3)), some (.inr (.inr r10)), none, none] [.inr (.inr x1), .inr (.inr x0)] H2 = _
    refine Eq.trans (e1 hG PT_121 k121_25 _ _ _) ?_
    show G 121 27 [some (.inr (.inr x0)), some (.inr (.inr x1)), some (.inr (.inr x2)), some (.inr (.inr x3)), some (.inr (.inr r10)), none, none] [.inr (.inr r10), .inr (.inr x1), .inr (.inr x0)] H2 = _
    refine Eq.trans (e1 hG PT_121 k121_27 _ _ _) ?_
    refine bfc ?_ ?_
    · refine bdc fun u11 => ?_
      refine bdc fun _ => ?_
      show G 121 30 [some (.inr (.inr x0)), some (.inr (.inr x1)), some (.inr (.inr x2)), some (.inr (.inr x3)), some (.inr (.inr r10)), none, none] [] u11.2 = _
      refine Eq.trans (e1 hG PT_121 k121_30 _ _ _) ?_
      rfl
    · rfl
theorem b121_66_n {G : AG} (hG : FIX G) (x0 : Nat) (x1 : Nat) (x2 : Nat) (x3 : Nat) (H : Hp) : G 121 66 [some (.inr (.inr x0)), some (.inr (.inr x1)), some (.inr (.inr x2)), some (.inr (.inr x3)), none, none, none] [] H = (((bif Nat.beq x3 0 then some (0 : Int32) else bif [2].any (Nat.beq (H.1 x3).1) then some 1 else bif [1, 3, 4, 10].any (Nat.beq (H.1 x3).1) then some 0 else none)).bind fun i1 => bif decide ((i1 : Int32) = 0) then G 121 99 [some (.inr (.inr x0)), some (.inr (.inr x1)), some (.inr (.inr x2)), some (.inr (.inr x3)), none, none, none] [] H else ((bif Nat.beq x3 0 || [2].any (Nat.beq (H.1 x3).1) then some x3 else none)).bind fun r2 => (hgI H x2 1).bind fun i3 => bif decide ((i3 : Int32) ≠ (7 : Int32)) then G 121 99 [some (.inr (.inr x0)), some (.inr (.inr x1)), some (.inr (.inr x2)), some (.inr (.inr x3)), none, none, some (.inr (.inr r2))] [] H else (hgI H r2 8).bind fun i4 => (hpI H x0 39 ((i4 + 1))).bind fun H5 => G 121 99 [some (.inr (.inr x0)), some (.inr (.inr x1)), some (.inr (.inr x2)), some (.inr (.inr x3)), none, none, some (.inr (.inr r2))] [] H5) := by
  refine Eq.trans (e1 hG PT_121 k121_66 _ _ _) ?_
  show G 121 67 [some (.inr (.inr x0)), some (.inr (.inr x1)), some (.inr (.inr x2)), some (.inr (.inr x3)), none, none, none] [.inr (.inr x3)] H = _
  refine Eq.trans (e1 hG PT_121 k121_67 _ _ _) ?_
  refine bdc fun i1 => ?_
  show G 121 70 [some (.inr (.inr x0)), some (.inr (.inr x1)), some (.inr (.inr x2)), some (.inr (.inr x3)), none, none, none] [.inl i1] H = _
  refine Eq.trans (e1 hG PT_121 k121_70 _ _ _) ?_
  refine bfc ?_ ?_
  · rfl
  · show G 121 73 [some (.inr (.inr x0)), some (.inr (.inr x1)), some (.inr (.inr x2)), some (.inr (.inr x3)), none, none, none] [] H = _
    refine Eq.trans (e1 hG PT_121 k121_73 _ _ _) ?_
    show G 121 74 [some (.inr (.inr x0)), some (.inr (.inr x1)), some (.inr (.inr x2)), some (.inr (.inr x3)), none, none, none] [.inr (.inr x3)] H = _
    refine Eq.trans (e1 hG PT_121 k121_74 _ _ _) ?_
    refine bdc fun r2 => ?_
    show G 121 77 [some (.inr (.inr x0)), some (.inr (.inr x1)), some (.inr (.inr x2)), some (.inr (.inr x3)), none, none, none] [.inr (.inr r2)] H = _
    refine Eq.trans (e1 hG PT_121 k121_77 _ _ _) ?_
    show G 121 79 [some (.inr (.inr x0)), some (.inr (.inr x1)), some (.inr (.inr x2)), some (.inr (.inr x3)), none, none, some (.inr (.inr r2))] [] H = _
    refine Eq.trans (e1 hG PT_121 k121_79 _ _ _) ?_
    show G 121 80 [some (.inr (.inr x0)), some (.inr (.inr x1)), some (.inr (.inr x2)), some (.inr (.inr x3)), none, none, some (.inr (.inr r2))] [.inr (.inr x2)] H = _
    refine Eq.trans (e1 hG PT_121 k121_80 _ _ _) ?_
    refine bdc fun i3 => ?_
    show G 121 83 [some (.inr (.inr x0)), some (.inr (.inr x1)), some (.inr (.inr x2)), some (.inr (.inr x3)), none, none, some (.inr (.inr r2))] [.inl i3] H = _
    refine Eq.trans (e1 hG PT_121 k121_83 _ _ _) ?_
    show G 121 85 [some (.inr (.inr x0)), some (.inr (.inr x1)), some (.inr (.inr x2)), some (.inr (.inr x3)), none, none, some (.inr (.inr r2))] [.inl 7, .inl i3] H = _
    refine Eq.trans (e1 hG PT_121 k121_85 _ _ _) ?_
    refine bfc ?_ ?_
    · rfl
    · show G 121 88 [some (.inr (.inr x0)), some (.inr (.inr x1)), some (.inr (.inr x2)), some (.inr (.inr x3)), none, none, some (.inr (.inr r2))] [] H = _
      refine Eq.trans (e1 hG PT_121 k121_88 _ _ _) ?_
      show G 121 89 [some (.inr (.inr x0)), some (.inr (.inr x1)), some (.inr (.inr x2)), some (.inr (.inr x3)), none, none, some (.inr (.inr r2))] [.inr (.inr x0)] H = _
      refine Eq.trans (e1 hG PT_121 k121_89 _ _ _) ?_
      show G 121 91 [some (.inr (.inr x0)), some (.inr (.inr x1)), some (.inr (.inr x2)), some (.inr (.inr x3)), none, none, some (.inr (.inr r2))] [.inr (.inr r2), .inr (.inr x0)] H = _
      refine Eq.trans (e1 hG PT_121 k121_91 _ _ _) ?_
      refine bdc fun i4 => ?_
      show G 121 94 [some (.inr (.inr x0)), some (.inr (.inr x1)), some (.inr (.inr x2)), some (.inr (.inr x3)), none, none, some (.inr (.inr r2))] [.inl i4, .inr (.inr x0)] H = _
      refine Eq.trans (e1 hG PT_121 k121_94 _ _ _) ?_
      show G 121 95 [some (.inr (.inr x0)), some (.inr (.inr x1)), some (.inr (.inr x2)), some (.inr (.inr x3)), none, none, some (.inr (.inr r2))] [.inl 1, .inl i4, .inr (.inr x0)] H = _
      refine Eq.trans (e1 hG PT_121 k121_95 _ _ _) ?_
      show G 121 96 [some (.inr (.inr x0)), some (.inr (.inr x1)), some (.inr (.inr x2)), some (.inr (.inr x3)), none, none, some (.inr (.inr r2))] [.inl (i4 + 1), .inr (.inr x0)] H = _
      refine Eq.trans (e1 hG PT_121 k121_96 _ _ _) ?_
      refine bdc fun H5 => ?_
      rfl
theorem b121_66_R {G : AG} (hG : FIX G) (x0 : Nat) (x1 : Nat) (x2 : Nat) (x3 : Nat) (x5 : Nat) (H : Hp) : G 121 66 [some (.inr (.inr x0)), some (.inr (.inr x1)), some (.inr (.inr x2)), some (.inr (.inr x3)), none, some (.inr (.inr x5)), none] [] H = (((bif Nat.beq x3 0 then some (0 : Int32) else bif [2].any (Nat.beq (H.1 x3).1) then some 1 else bif [1, 3, 4, 10].any (Nat.beq (H.1 x3).1) then some 0 else none)).bind fun i1 => bif decide ((i1 : Int32) = 0) then G 121 99 [some (.inr (.inr x0)), some (.inr (.inr x1)), some (.inr (.inr x2)), some (.inr (.inr x3)), none, some (.inr (.inr x5)), none] [] H else ((bif Nat.beq x3 0 || [2].any (Nat.beq (H.1 x3).1) then some x3 else none)).bind fun r2 => (hgI H x2 1).bind fun i3 => bif decide ((i3 : Int32) ≠ (7 : Int32)) then G 121 99 [some (.inr (.inr x0)), some (.inr (.inr x1)), some (.inr (.inr x2)), some (.inr (.inr x3)), none, some (.inr (.inr x5)), some (.inr (.inr r2))] [] H else (hgI H r2 8).bind fun i4 => (hpI H x0 39 ((i4 + 1))).bind fun H5 => G 121 99 [some (.inr (.inr x0)), some (.inr (.inr x1)), some (.inr (.inr x2)), some (.inr (.inr x3)), none, some (.inr (.inr x5)), some (.inr (.inr r2))] [] H5) := by
  refine Eq.trans (e1 hG PT_121 k121_66 _ _ _) ?_
  show G 121 67 [some (.inr (.inr x0)), some (.inr (.inr x1)), some (.inr (.inr x2)), some (.inr (.inr x3)), none, some (.inr (.inr x5)), none] [.inr (.inr x3)] H = _
  refine Eq.trans (e1 hG PT_121 k121_67 _ _ _) ?_
  refine bdc fun i1 => ?_
  show G 121 70 [some (.inr (.inr x0)), some (.inr (.inr x1)), some (.inr (.inr x2)), some (.inr (.inr x3)), none, some (.inr (.inr x5)), none] [.inl i1] H = _
  refine Eq.trans (e1 hG PT_121 k121_70 _ _ _) ?_
  refine bfc ?_ ?_
  · rfl
  · show G 121 73 [some (.inr (.inr x0)), some (.inr (.inr x1)), some (.inr (.inr x2)), some (.inr (.inr x3)), none, some (.inr (.inr x5)), none] [] H = _
    refine Eq.trans (e1 hG PT_121 k121_73 _ _ _) ?_
    show G 121 74 [some (.inr (.inr x0)), some (.inr (.inr x1)), some (.inr (.inr x2)), some (.inr (.inr x3)), none, some (.inr (.inr x5)), none] [.inr (.inr x3)] H = _
    refine Eq.trans (e1 hG PT_121 k121_74 _ _ _) ?_
    refine bdc fun r2 => ?_
    show G 121 77 [some (.inr (.inr x0)), some (.inr (.inr x1)), some (.inr (.inr x2)), some (.inr (.inr x3)), none, some (.inr (.inr x5)), none] [.inr (.inr r2)] H = _
    refine Eq.trans (e1 hG PT_121 k121_77 _ _ _) ?_
    show G 121 79 [some (.inr (.inr x0)), some (.inr (.inr x1)), some (.inr (.inr x2)), some (.inr (.inr x3)), none, some (.inr (.inr x5)), some (.inr (.inr r2))] [] H = _
    refine Eq.trans (e1 hG PT_121 k121_79 _ _ _) ?_
    show G 121 80 [some (.inr (.inr x0)), some (.inr (.inr x1)), some (.inr (.inr x2)), some (.inr (.inr x3)), none, some (.inr (.inr x5)), some (.inr (.inr r2))] [.inr (.inr x2)] H = _
    refine Eq.trans (e1 hG PT_121 k121_80 _ _ _) ?_
    refine bdc fun i3 => ?_
    show G 121 83 [some (.inr (.inr x0)), some (.inr (.inr x1)), some (.inr (.inr x2)), some (.inr (.inr x3)), none, some (.inr (.inr x5)), some (.inr (.inr r2))] [.inl i3] H = _
    refine Eq.trans (e1 hG PT_121 k121_83 _ _ _) ?_
    show G 121 85 [some (.inr (.inr x0)), some (.inr (.inr x1)), some (.inr (.inr x2)), some (.inr (.inr x3)), none, some (.inr (.inr x5)), some (.inr (.inr r2))] [.inl 7, .inl i3] H = _
    refine Eq.trans (e1 hG PT_121 k121_85 _ _ _) ?_
    refine bfc ?_ ?_
    · rfl
    · show G 121 88 [some (.inr (.inr x0)), some (.inr (.inr x1)), some (.inr (.inr x2)), some (.inr (.inr x3)), none, some (.inr (.inr x5)), some (.inr (.inr r2))] [] H = _
      refine Eq.trans (e1 hG PT_121 k121_88 _ _ _) ?_
      show G 121 89 [some (.inr (.inr x0)), some (.inr (.inr x1)), some (.inr (.inr x2)), some (.inr (.inr x3)), none, some (.inr (.inr x5)), some (.inr (.inr r2))] [.inr (.inr x0)] H = _
      refine Eq.trans (e1 hG PT_121 k121_89 _ _ _) ?_
      show G 121 91 [some (.inr (.inr x0)), some (.inr (.inr x1)), some (.inr (.inr x2)), some (.inr (.inr x3)), none, some (.inr (.inr x5)), some (.inr (.inr r2))] [.inr (.inr r2), .inr (.inr x0)] H = _
      refine Eq.trans (e1 hG PT_121 k121_91 _ _ _) ?_
      refine bdc fun i4 => ?_
      show G 121 94 [some (.inr (.inr x0)), some (.inr (.inr x1)), some (.inr (.inr x2)), some (.inr (.inr x3)), none, some (.inr (.inr x5)), some (.inr (.inr r2))] [.inl i4, .inr (.inr x0)] H = _
      refine Eq.trans (e1 hG PT_121 k121_94 _ _ _) ?_
      show G 121 95 [some (.inr (.inr x0)), some (.inr (.inr x1)), some (.inr (.inr x2)), some (.inr (.inr x3)), none, some (.inr (.inr x5)), some (.inr (.inr r2))] [.inl 1, .inl i4, .inr (.inr x0)] H = _
      refine Eq.trans (e1 hG PT_121 k121_95 _ _ _) ?_
      show G 121 96 [some (.inr (.inr x0)), some (.inr (.inr x1)), some (.inr (.inr x2)), some (.inr (.inr x3)), none, some (.inr (.inr x5)), some (.inr (.inr r2))] [.inl (i4 + 1), .inr (.inr x0)] H = _
      refine Eq.trans (e1 hG PT_121 k121_96 _ _ _) ?_
      refine bdc fun H5 => ?_
      rfl
theorem b121_99 {G : AG} (hG : FIX G) (x0 : Nat) (x1 : Nat) (x2 : Nat) (x3 : Nat) (o4 : Option AV) (o5 : Option AV) (o6 : Option AV) (H : Hp) : G 121 99 [some (.inr (.inr x0)), some (.inr (.inr x1)), some (.inr (.inr x2)), some (.inr (.inr x3)), o4, o5, o6] [] H = (some (none, H)) := by
  exact e1 hG PT_121 k121_99 _ _ _
-- StepsAhead$Runner.endPart(LStepsAhead$Either;I)V
theorem PT_122 : PT 122 = pt122 := rfl
theorem k122_0 : lkp pt122 0 = iP 1 (fIld 2) := rfl
theorem k122_1 : lkp pt122 1 = iP 3 (fK (.inl 7)) := rfl
theorem k122_3 : lkp pt122 3 = iB 6 22 (b2 (fun x y => decide (x ≠ y))) := rfl
theorem k122_6 : lkp pt122 6 = iP 7 (fAld 1) := rfl
theorem k122_7 : lkp pt122 7 = iP 8 (fAld 0) := rfl
theorem k122_8 : lkp pt122 8 = iRI 11 (gtI 35) := rfl
theorem k122_11 : lkp pt122 11 = iW 14 (ptI 10) := rfl
theorem k122_14 : lkp pt122 14 = iP 15 (fAld 0) := rfl
theorem k122_15 : lkp pt122 15 = iP 16 (fK (.inl 0)) := rfl
theorem k122_16 : lkp pt122 16 = iW 19 (ptI 35) := rfl
theorem k122_19 : lkp pt122 19 = iP 66 fGo := rfl
theorem k122_22 : lkp pt122 22 = iP 23 (fAld 0) := rfl
theorem k122_23 : lkp pt122 23 = iRI 26 (gtI 34) := rfl
theorem k122_26 : lkp pt122 26 = iP 27 (fK (.inl 3)) := rfl
theorem k122_27 : lkp pt122 27 = iB 30 44 (b2 (fun x y => decide (x ≠ y))) := rfl
theorem k122_30 : lkp pt122 30 = iP 31 (fAld 1) := rfl
theorem k122_31 : lkp pt122 31 = iRI 34 (gtI 10) := rfl
theorem k122_34 : lkp pt122 34 = iP 35 (fAld 0) := rfl
theorem k122_35 : lkp pt122 35 = iRI 38 (gtI 35) := rfl
theorem k122_38 : lkp pt122 38 = iP 41 (fM2 (fun x y => if x < y then y else x)) := rfl
theorem k122_41 : lkp pt122 41 = iP 55 fGo := rfl
theorem k122_44 : lkp pt122 44 = iP 45 (fAld 1) := rfl
theorem k122_45 : lkp pt122 45 = iRI 48 (gtI 10) := rfl
theorem k122_48 : lkp pt122 48 = iP 49 (fAld 0) := rfl
theorem k122_49 : lkp pt122 49 = iRI 52 (gtI 35) := rfl
theorem k122_52 : lkp pt122 52 = iP 55 (fM2 (fun x y => if y < x then y else x)) := rfl
theorem k122_55 : lkp pt122 55 = iP 56 (fIst 3) := rfl
theorem k122_56 : lkp pt122 56 = iP 57 (fAld 0) := rfl
theorem k122_57 : lkp pt122 57 = iP 58 (fAld 1) := rfl
theorem k122_58 : lkp pt122 58 = iRI 61 (gtI 9) := rfl
theorem k122_61 : lkp pt122 61 = iP 62 (fIld 3) := rfl
theorem k122_62 : lkp pt122 62 = iP 63 (f2I (fun x y => x + y)) := rfl
theorem k122_63 : lkp pt122 63 = iW 66 (ptI 35) := rfl
theorem k122_66 : lkp pt122 66 = iRet rV := rfl
theorem b122_0 {G : AG} (hG : FIX G) (x0 : Nat) (x1 : Nat) (x2 : Int32) (H : Hp) : G 122 0 [some (.inr (.inr x0)), some (.inr (.inr x1)), some (.inl x2), none] [] H = (bif decide ((x2 : Int32) ≠ (7 : Int32)) then (hgI H x0 34).bind fun i1 => bif decide ((i1 : Int32) ≠ (3 : Int32)) then (hgI H x1 10).bind fun i2 => (hgI H x0 35).bind fun i3 => G 122 55 [some (.inr (.inr x0)), some (.inr (.inr x1)), some (.inl x2), none] [.inl (if i3 < i2 then i3 else i2)] H else (hgI H x1 10).bind fun i4 => (hgI H x0 35).bind fun i5 => G 122 55 [some (.inr (.inr x0)), some (.inr (.inr x1)), some (.inl x2), none] [.inl (if i4 < i5 then i5 else i4)] H else (hgI H x0 35).bind fun i6 => (hpI H x1 10 i6).bind fun H7 => (hpI H7 x0 35 0).bind fun H8 => G 122 66 [some (.inr (.inr x0)), some (.inr (.inr x1)), some (.inl x2), none] [] H8) := by
  refine Eq.trans (e1 hG PT_122 k122_0 _ _ _) ?_
  show G 122 1 [some (.inr (.inr x0)), some (.inr (.inr x1)), some (.inl x2), none] [.inl x2] H = _
  refine Eq.trans (e1 hG PT_122 k122_1 _ _ _) ?_
  show G 122 3 [some (.inr (.inr x0)), some (.inr (.inr x1)), some (.inl x2), none] [.inl 7, .inl x2] H = _
  refine Eq.trans (e1 hG PT_122 k122_3 _ _ _) ?_
  refine bfc ?_ ?_
  · show G 122 22 [some (.inr (.inr x0)), some (.inr (.inr x1)), some (.inl x2), none] [] H = _
    refine Eq.trans (e1 hG PT_122 k122_22 _ _ _) ?_
    show G 122 23 [some (.inr (.inr x0)), some (.inr (.inr x1)), some (.inl x2), none] [.inr (.inr x0)] H = _
    refine Eq.trans (e1 hG PT_122 k122_23 _ _ _) ?_
    refine bdc fun i1 => ?_
    show G 122 26 [some (.inr (.inr x0)), some (.inr (.inr x1)), some (.inl x2), none] [.inl i1] H = _
    refine Eq.trans (e1 hG PT_122 k122_26 _ _ _) ?_
    show G 122 27 [some (.inr (.inr x0)), some (.inr (.inr x1)), some (.inl x2), none] [.inl 3, .inl i1] H = _
    refine Eq.trans (e1 hG PT_122 k122_27 _ _ _) ?_
    refine bfc ?_ ?_
    · show G 122 44 [some (.inr (.inr x0)), some (.inr (.inr x1)), some (.inl x2), none] [] H = _
      refine Eq.trans (e1 hG PT_122 k122_44 _ _ _) ?_
      show G 122 45 [some (.inr (.inr x0)), some (.inr (.inr x1)), some (.inl x2), none] [.inr (.inr x1)] H = _
      refine Eq.trans (e1 hG PT_122 k122_45 _ _ _) ?_
      refine bdc fun i2 => ?_
      show G 122 48 [some (.inr (.inr x0)), some (.inr (.inr x1)), some (.inl x2), none] [.inl i2] H = _
      refine Eq.trans (e1 hG PT_122 k122_48 _ _ _) ?_
      show G 122 49 [some (.inr (.inr x0)), some (.inr (.inr x1)), some (.inl x2), none] [.inr (.inr x0), .inl i2] H = _
      refine Eq.trans (e1 hG PT_122 k122_49 _ _ _) ?_
      refine bdc fun i3 => ?_
      show G 122 52 [some (.inr (.inr x0)), some (.inr (.inr x1)), some (.inl x2), none] [.inl i3, .inl i2] H = _
      refine Eq.trans (e1 hG PT_122 k122_52 _ _ _) ?_
      rfl
    · show G 122 30 [some (.inr (.inr x0)), some (.inr (.inr x1)), some (.inl x2), none] [] H = _
      refine Eq.trans (e1 hG PT_122 k122_30 _ _ _) ?_
      show G 122 31 [some (.inr (.inr x0)), some (.inr (.inr x1)), some (.inl x2), none] [.inr (.inr x1)] H = _
      refine Eq.trans (e1 hG PT_122 k122_31 _ _ _) ?_
      refine bdc fun i4 => ?_
      show G 122 34 [some (.inr (.inr x0)), some (.inr (.inr x1)), some (.inl x2), none] [.inl i4] H = _
      refine Eq.trans (e1 hG PT_122 k122_34 _ _ _) ?_
      show G 122 35 [some (.inr (.inr x0)), some (.inr (.inr x1)), some (.inl x2), none] [.inr (.inr x0), .inl i4] H = _
      refine Eq.trans (e1 hG PT_122 k122_35 _ _ _) ?_
      refine bdc fun i5 => ?_
      show G 122 38 [some (.inr (.inr x0)), some (.inr (.inr x1)), some (.inl x2), none] [.inl i5, .inl i4] H = _
      refine Eq.trans (e1 hG PT_122 k122_38 _ _ _) ?_
      show G 122 41 [some (.inr (.inr x0)), some (.inr (.inr x1)), some (.inl x2), none] [.inl (if i4 < i5 then i5 else i4)] H = _
      refine Eq.trans (e1 hG PT_122 k122_41 _ _ _) ?_
      rfl
  · show G 122 6 [some (.inr (.inr x0)), some (.inr (.inr x1)), some (.inl x2), none] [] H = _
    refine Eq.trans (e1 hG PT_122 k122_6 _ _ _) ?_
    show G 122 7 [some (.inr (.inr x0)), some (.inr (.inr x1)), some (.inl x2), none] [.inr (.inr x1)] H = _
    refine Eq.trans (e1 hG PT_122 k122_7 _ _ _) ?_
    show G 122 8 [some (.inr (.inr x0)), some (.inr (.inr x1)), some (.inl x2), none] [.inr (.inr x0), .inr (.inr x1)] H = _
    refine Eq.trans (e1 hG PT_122 k122_8 _ _ _) ?_
    refine bdc fun i6 => ?_
    show G 122 11 [some (.inr (.inr x0)), some (.inr (.inr x1)), some (.inl x2), none] [.inl i6, .inr (.inr x1)] H = _
    refine Eq.trans (e1 hG PT_122 k122_11 _ _ _) ?_
    refine bdc fun H7 => ?_
    show G 122 14 [some (.inr (.inr x0)), some (.inr (.inr x1)), some (.inl x2), none] [] H7 = _
    refine Eq.trans (e1 hG PT_122 k122_14 _ _ _) ?_
    show G 122 15 [some (.inr (.inr x0)), some (.inr (.inr x1)), some (.inl x2), none] [.inr (.inr x0)] H7 = _
    refine Eq.trans (e1 hG PT_122 k122_15 _ _ _) ?_
    show G 122 16 [some (.inr (.inr x0)), some (.inr (.inr x1)), some (.inl x2), none] [.inl 0, .inr (.inr x0)] H7 = _
    refine Eq.trans (e1 hG PT_122 k122_16 _ _ _) ?_
    refine bdc fun H8 => ?_
    show G 122 19 [some (.inr (.inr x0)), some (.inr (.inr x1)), some (.inl x2), none] [] H8 = _
    refine Eq.trans (e1 hG PT_122 k122_19 _ _ _) ?_
    rfl
theorem b122_55 {G : AG} (hG : FIX G) (x0 : Nat) (x1 : Nat) (x2 : Int32) (s0 : Int32) (H : Hp) : G 122 55 [some (.inr (.inr x0)), some (.inr (.inr x1)), some (.inl x2), none] [.inl s0] H = ((hgI H x1 9).bind fun i1 => (hpI H x0 35 ((i1 + s0))).bind fun H2 => G 122 66 [some (.inr (.inr x0)), some (.inr (.inr x1)), some (.inl x2), some (.inl s0)] [] H2) := by
  refine Eq.trans (e1 hG PT_122 k122_55 _ _ _) ?_
  show G 122 56 [some (.inr (.inr x0)), some (.inr (.inr x1)), some (.inl x2), some (.inl s0)] [] H = _
  refine Eq.trans (e1 hG PT_122 k122_56 _ _ _) ?_
  show G 122 57 [some (.inr (.inr x0)), some (.inr (.inr x1)), some (.inl x2), some (.inl s0)] [.inr (.inr x0)] H = _
  refine Eq.trans (e1 hG PT_122 k122_57 _ _ _) ?_
  show G 122 58 [some (.inr (.inr x0)), some (.inr (.inr x1)), some (.inl x2), some (.inl s0)] [.inr (.inr x1), .inr (.inr x0)] H = _
  refine Eq.trans (e1 hG PT_122 k122_58 _ _ _) ?_
  refine bdc fun i1 => ?_
  show G 122 61 [some (.inr (.inr x0)), some (.inr (.inr x1)), some (.inl x2), some (.inl s0)] [.inl i1, .inr (.inr x0)] H = _
  refine Eq.trans (e1 hG PT_122 k122_61 _ _ _) ?_
  show G 122 62 [some (.inr (.inr x0)), some (.inr (.inr x1)), some (.inl x2), some (.inl s0)] [.inl s0, .inl i1, .inr (.inr x0)] H = _
  refine Eq.trans (e1 hG PT_122 k122_62 _ _ _) ?_
  show G 122 63 [some (.inr (.inr x0)), some (.inr (.inr x1)), some (.inl x2), some (.inl s0)] [.inl (i1 + s0), .inr (.inr x0)] H = _
  refine Eq.trans (e1 hG PT_122 k122_63 _ _ _) ?_
  refine bdc fun H2 => ?_
  rfl
theorem b122_66 {G : AG} (hG : FIX G) (x0 : Nat) (x1 : Nat) (x2 : Int32) (o3 : Option AV) (H : Hp) : G 122 66 [some (.inr (.inr x0)), some (.inr (.inr x1)), some (.inl x2), o3] [] H = (some (none, H)) := by
  exact e1 hG PT_122 k122_66 _ _ _
-- StepsAhead.lot(I)I
theorem PT_123 : PT 123 = pt123 := rfl
theorem k123_0 : lkp pt123 0 = iP 1 (fAld 0) := rfl
theorem k123_1 : lkp pt123 1 = iRR 4 (gtR 49) := rfl
theorem k123_4 : lkp pt123 4 = iP 5 (fIld 1) := rfl
theorem k123_5 : lkp pt123 5 = iW 8 (ptI 33) := rfl
theorem k123_8 : lkp pt123 8 = iP 9 (fK (.inl 1)) := rfl
theorem k123_9 : lkp pt123 9 = iRet rI := rfl
theorem b123_0 {G : AG} (hG : FIX G) (x0 : Nat) (x1 : Int32) (H : Hp) : G 123 0 [some (.inr (.inr x0)), some (.inl x1)] [] H = ((hgR H x0 49).bind fun r1 => (hpI H r1 33 x1).bind fun H2 => some (some (.inl 1), H2)) := by
  refine Eq.trans (e1 hG PT_123 k123_0 _ _ _) ?_
  show G 123 1 [some (.inr (.inr x0)), some (.inl x1)] [.inr (.inr x0)] H = _
  refine Eq.trans (e1 hG PT_123 k123_1 _ _ _) ?_
  refine bdc fun r1 => ?_
  show G 123 4 [some (.inr (.inr x0)), some (.inl x1)] [.inr (.inr r1)] H = _
  refine Eq.trans (e1 hG PT_123 k123_4 _ _ _) ?_
  show G 123 5 [some (.inr (.inr x0)), some (.inl x1)] [.inl x1, .inr (.inr r1)] H = _
  refine Eq.trans (e1 hG PT_123 k123_5 _ _ _) ?_
  refine bdc fun H2 => ?_
  show G 123 8 [some (.inr (.inr x0)), some (.inl x1)] [] H2 = _
  refine Eq.trans (e1 hG PT_123 k123_8 _ _ _) ?_
  show G 123 9 [some (.inr (.inr x0)), some (.inl x1)] [.inl 1] H2 = _
  exact e1 hG PT_123 k123_9 _ _ _
-- StepsAhead.allowed(IIII)I
theorem PT_124 : PT 124 = pt124 := rfl
theorem k124_0 : lkp pt124 0 = iP 1 (fAld 0) := rfl
theorem k124_1 : lkp pt124 1 = iP 2 (fIld 1) := rfl
theorem k124_2 : lkp pt124 2 = iCK 5 11 15 2 2 3 := rfl
theorem k124_5 : lkp pt124 5 = iP 7 (fAst 5) := rfl
theorem k124_7 : lkp pt124 7 = iP 9 (fAld 5) := rfl
theorem k124_9 : lkp pt124 9 = iB 12 31 bN := rfl
theorem k124_12 : lkp pt124 12 = iP 13 (fIld 2) := rfl
theorem k124_13 : lkp pt124 13 = iC 16 102 1 1 1 := rfl
theorem k124_16 : lkp pt124 16 = iB 19 31 (b1 (fun x => decide (x = 0))) := rfl
theorem k124_19 : lkp pt124 19 = iP 20 (fIld 3) := rfl
theorem k124_20 : lkp pt124 20 = iC 23 102 1 1 1 := rfl
theorem k124_23 : lkp pt124 23 = iB 26 31 (b1 (fun x => decide (x = 0))) := rfl
theorem k124_26 : lkp pt124 26 = iP 28 (fIld 4) := rfl
theorem k124_28 : lkp pt124 28 = iB 31 34 (b1 (fun x => decide (0 ≤ x))) := rfl
theorem k124_31 : lkp pt124 31 = iP 33 (fK (.inl (-1000001))) := rfl
theorem k124_33 : lkp pt124 33 = iRet rI := rfl
theorem k124_34 : lkp pt124 34 = iP 35 (fAld 0) := rfl
theorem k124_35 : lkp pt124 35 = iP 37 (fAld 5) := rfl
theorem k124_37 : lkp pt124 37 = iP 38 (fK (.inl 1)) := rfl
theorem k124_38 : lkp pt124 38 = iCK 41 11 67 6 3 1 := rfl
theorem k124_41 : lkp pt124 41 = iP 43 (fIst 6) := rfl
theorem k124_43 : lkp pt124 43 = iP 45 (fIld 6) := rfl
theorem k124_45 : lkp pt124 45 = iB 48 51 (b1 (fun x => decide (0 ≤ x))) := rfl
theorem k124_48 : lkp pt124 48 = iP 50 (fIld 6) := rfl
theorem k124_50 : lkp pt124 50 = iRet rI := rfl
theorem k124_51 : lkp pt124 51 = iP 53 (fAld 5) := rfl
theorem k124_53 : lkp pt124 53 = iP 54 (fK (.inl 1)) := rfl
theorem k124_54 : lkp pt124 54 = iP 55 (fIld 2) := rfl
theorem k124_55 : lkp pt124 55 = iP 56 (fIld 3) := rfl
theorem k124_56 : lkp pt124 56 = iCK 59 7 103 10 4 2 := rfl
theorem k124_59 : lkp pt124 59 = iP 61 (fIld 4) := rfl
theorem k124_61 : lkp pt124 61 = iP 62 fI2l := rfl
theorem k124_62 : lkp pt124 62 = iP 63 fLcmp := rfl
theorem k124_63 : lkp pt124 63 = iB 66 69 (b1 (fun x => decide (x ≤ 0))) := rfl
theorem k124_66 : lkp pt124 66 = iP 68 (fK (.inl (-1000000))) := rfl
theorem k124_68 : lkp pt124 68 = iRet rI := rfl
theorem k124_69 : lkp pt124 69 = iP 70 (fAld 0) := rfl
theorem k124_70 : lkp pt124 70 = iRR 73 (gtR 49) := rfl
theorem k124_73 : lkp pt124 73 = iP 75 (fAld 5) := rfl
theorem k124_75 : lkp pt124 75 = iP 76 (fIld 2) := rfl
theorem k124_76 : lkp pt124 76 = iP 77 (fIld 3) := rfl
theorem k124_77 : lkp pt124 77 = iP 78 (fK (.inl 2)) := rfl
theorem k124_78 : lkp pt124 78 = iCK 81 8 108 6 5 1 := rfl
theorem k124_81 : lkp pt124 81 = iRet rI := rfl
theorem b124_0 {G : AG} (hG : FIX G) (x0 : Nat) (x1 : Int32) (x2 : Int32) (x3 : Int32) (x4 : Int32) (H : Hp) : G 124 0 [some (.inr (.inr x0)), some (.inl x1), some (.inl x2), some (.inl x3), some (.inl x4), none, none] [] H = (bif Nat.beq (H.1 x0).1 11 then (G 15 0 [some (.inr (.inr x0)), some (.inl x1)] [] H).bind fun u1 => (asR u1.1).bind fun r2 => bif Nat.beq r2 0 then G 124 31 [some (.inr (.inr x0)), some (.inl x1), some (.inl x2), some (.inl x3), some (.inl x4), some (.inr (.inr r2)), none] [] u1.2 else (G 102 0 [some (.inl x2)] [] u1.2).bind fun u3 => (asI u3.1).bind fun i4 => bif decide ((i4 : Int32) = 0) then G 124 31 [some (.inr (.inr x0)), some (.inl x1), some (.inl x2), some (.inl x3), some (.inl x4), some (.inr (.inr r2)), none] [] u3.2 else (G 102 0 [some (.inl x3)] [] u3.2).bind fun u5 => (asI u5.1).bind fun i6 => bif decide ((i6 : Int32) = 0) then G 124 31 [some (.inr (.inr x0)), some (.inl x1), some (.inl x2), some (.inl x3), some (.inl x4), some (.inr (.inr r2)), none] [] u5.2 else bif decide (0 ≤ (x4 : Int32)) then bif Nat.beq (u5.2.1 x0).1 11 then (G 67 0 [some (.inr (.inr x0)), some (.inr (.inr r2)), some (.inl 1), none, none, none] [] u5.2).bind fun u7 => (asI u7.1).bind fun i8 => bif decide (0 ≤ (i8 : Int32)) then bif Nat.beq (u7.2.1 r2).1 7 then (G 103 0 [some (.inr (.inr r2)), some (.inl 1), some (.inl x2), some (.inl x3), none, none, none, none, none, none] [] u7.2).bind fun u9 => (asJ u9.1).bind fun j10 => bif decide (((lg_cmp j10 x4.toInt64) : Int32) ≤ 0) then (hgR u9.2 x0 49).bind fun r11 => bif Nat.beq (u9.2.1 r11).1 8 then (G 108 0 [some (.inr (.inr r11)), some (.inr (.inr r2)), some (.inl x2), some (.inl x3), some (.inl 2), none] [] u9.2).bind fun u12 => (asI u12.1).bind fun i13 => some (some (.inl i13), u12.2) else none else some (some (.inl ((-1000000))), u9.2) else none else some (some (.inl i8), u7.2) else none else G 124 31 [some (.inr (.inr x0)), some (.inl x1), some (.inl x2), some (.inl x3), some (.inl x4), some (.inr (.inr r2)), none] [] u5.2 else none) := by
  refine Eq.trans (e1 hG PT_124 k124_0 _ _ _) ?_
  show G 124 1 [some (.inr (.inr x0)), some (.inl x1), some (.inl x2), some (.inl x3), some (.inl x4), none, none] [.inr (.inr x0)] H = _
  refine Eq.trans (e1 hG PT_124 k124_1 _ _ _) ?_
  show G 124 2 [some (.inr (.inr x0)), some (.inl x1), some (.inl x2), some (.inl x3), some (.inl x4), none, none] [.inl x1, .inr (.inr x0)] H = _
  refine Eq.trans (e1 hG PT_124 k124_2 _ _ _) ?_
  refine bfc ?_ ?_
  · refine bdc fun u1 => ?_
    refine bdc fun r2 => ?_
    show G 124 5 [some (.inr (.inr x0)), some (.inl x1), some (.inl x2), some (.inl x3), some (.inl x4), none, none] [.inr (.inr r2)] u1.2 = _
    refine Eq.trans (e1 hG PT_124 k124_5 _ _ _) ?_
    show G 124 7 [some (.inr (.inr x0)), some (.inl x1), some (.inl x2), some (.inl x3), some (.inl x4), some (.inr (.inr r2)), none] [] u1.2 = _
    refine Eq.trans (e1 hG PT_124 k124_7 _ _ _) ?_
    show G 124 9 [some (.inr (.inr x0)), some (.inl x1), some (.inl x2), some (.inl x3), some (.inl x4), some (.inr (.inr r2)), none] [.inr (.inr r2)] u1.2 = _
    refine Eq.trans (e1 hG PT_124 k124_9 _ _ _) ?_
    refine bfc ?_ ?_
    · rfl
    · show G 124 12 [some (.inr (.inr x0)), some (.inl x1), some (.inl x2), some (.inl x3), some (.inl x4), some (.inr (.inr r2)), none] [] u1.2 = _
      refine Eq.trans (e1 hG PT_124 k124_12 _ _ _) ?_
      show G 124 13 [some (.inr (.inr x0)), some (.inl x1), some (.inl x2), some (.inl x3), some (.inl x4), some (.inr (.inr r2)), none] [.inl x2] u1.2 = _
      refine Eq.trans (e1 hG PT_124 k124_13 _ _ _) ?_
      refine bdc fun u3 => ?_
      refine bdc fun i4 => ?_
      show G 124 16 [some (.inr (.inr x0)), some (.inl x1), some (.inl x2), some (.inl x3), some (.inl x4), some (.inr (.inr r2)), none] [.inl i4] u3.2 = _
      refine Eq.trans (e1 hG PT_124 k124_16 _ _ _) ?_
      refine bfc ?_ ?_
      · rfl
      · show G 124 19 [some (.inr (.inr x0)), some (.inl x1), some (.inl x2), some (.inl x3), some (.inl x4), some (.inr (.inr r2)), none] [] u3.2 = _
        refine Eq.trans (e1 hG PT_124 k124_19 _ _ _) ?_
        show G 124 20 [some (.inr (.inr x0)), some (.inl x1), some (.inl x2), some (.inl x3), some (.inl x4), some (.inr (.inr r2)), none] [.inl x3] u3.2 = _
        refine Eq.trans (e1 hG PT_124 k124_20 _ _ _) ?_
        refine bdc fun u5 => ?_
        refine bdc fun i6 => ?_
        show G 124 23 [some (.inr (.inr x0)), some (.inl x1), some (.inl x2), some (.inl x3), some (.inl x4), some (.inr (.inr r2)), none] [.inl i6] u5.2 = _
        refine Eq.trans (e1 hG PT_124 k124_23 _ _ _) ?_
        refine bfc ?_ ?_
        · rfl
        · show G 124 26 [some (.inr (.inr x0)), some (.inl x1), some (.inl x2), some (.inl x3), some (.inl x4), some (.inr (.inr r2)), none] [] u5.2 = _
          refine Eq.trans (e1 hG PT_124 k124_26 _ _ _) ?_
          show G 124 28 [some (.inr (.inr x0)), some (.inl x1), some (.inl x2), some (.inl x3), some (.inl x4), some (.inr (.inr r2)), none] [.inl x4] u5.2 = _
          refine Eq.trans (e1 hG PT_124 k124_28 _ _ _) ?_
          refine bfc ?_ ?_
          · show G 124 34 [some (.inr (.inr x0)), some (.inl x1), some (.inl x2), some (.inl x3), some (.inl x4), some (.inr (.inr r2)), none] [] u5.2 = _
            refine Eq.trans (e1 hG PT_124 k124_34 _ _ _) ?_
            show G 124 35 [some (.inr (.inr x0)), some (.inl x1), some (.inl x2), some (.inl x3), some (.inl x4), some (.inr (.inr r2)), none] [.inr (.inr x0)] u5.2 = _
            refine Eq.trans (e1 hG PT_124 k124_35 _ _ _) ?_
            show G 124 37 [some (.inr (.inr x0)), some (.inl x1), some (.inl x2), some (.inl x3), some (.inl x4), some (.inr (.inr r2)), none] [.inr (.inr r2), .inr (.inr x0)] u5.2 = _
            refine Eq.trans (e1 hG PT_124 k124_37 _ _ _) ?_
            show G 124 38 [some (.inr (.inr x0)), some (.inl x1), some (.inl x2), some (.inl x3), some (.inl x4), some (.inr (.inr r2)), none] [.inl 1, .inr (.inr r2), .inr (.inr x0)] u5.2 = _
            refine Eq.trans (e1 hG PT_124 k124_38 _ _ _) ?_
            refine bfc ?_ ?_
            · refine bdc fun u7 => ?_
              refine bdc fun i8 => ?_
              show G 124 41 [some (.inr (.inr x0)), some (.inl x1), some (.inl x2), some (.inl x3), some (.inl x4), some (.inr (.inr r2)), none] [.inl i8] u7.2 = _
              refine Eq.trans (e1 hG PT_124 k124_41 _ _ _) ?_
              show G 124 43 [some (.inr (.inr x0)), some (.inl x1), some (.inl x2), some (.inl x3), some (.inl x4), some (.inr (.inr r2)), some (.inl i8)] [] u7.2 = _
              refine Eq.trans (e1 hG PT_124 k124_43 _ _ _) ?_
              show G 124 45 [some (.inr (.inr x0)), some (.inl x1), some (.inl x2), some (.inl x3), some (.inl x4), some (.inr (.inr r2)), some (.inl i8)] [.inl i8] u7.2 = _
              refine Eq.trans (e1 hG PT_124 k124_45 _ _ _) ?_
              refine bfc ?_ ?_
              · show G 124 51 [some (.inr (.inr x0)), some (.inl x1), some (.inl x2), some (.inl x3), some (.inl x4), some (.inr (.inr r2)), some (.inl i8)] [] u7.2 = _
                refine Eq.trans (e1 hG PT_124 k124_51 _ _ _) ?_
                show G 124 53 [some (.inr (.inr x0)), some (.inl x1), some (.inl x2), some (.inl x3), some (.inl x4), some (.inr (.inr r2)), some (.inl i8)] [.inr (.inr r2)] u7.2 = _
                refine Eq.trans (e1 hG PT_124 k124_53 _ _ _) ?_
                show G 124 54 [some (.inr (.inr x0)), some (.inl x1), some (.inl x2), some (.inl x3), some (.inl x4), some (.inr (.inr r2)), some (.inl i8)] [.inl 1, .inr (.inr r2)] u7.2 = _
                refine Eq.trans (e1 hG PT_124 k124_54 _ _ _) ?_
                show G 124 55 [some (.inr (.inr x0)), some (.inl x1), some (.inl x2), some (.inl x3), some (.inl x4), some (.inr (.inr r2)), some (.inl i8)] [.inl x2, .inl 1, .inr (.inr r2)] u7.2 = _
                refine Eq.trans (e1 hG PT_124 k124_55 _ _ _) ?_
                show G 124 56 [some (.inr (.inr x0)), some (.inl x1), some (.inl x2), some (.inl x3), some (.inl x4), some (.inr (.inr r2)), some (.inl i8)] [.inl x3, .inl x2, .inl 1, .inr (.inr r2)] u7.2 = _
                refine Eq.trans (e1 hG PT_124 k124_56 _ _ _) ?_
                refine bfc ?_ ?_
                · refine bdc fun u9 => ?_
                  refine bdc fun j10 => ?_
                  show G 124 59 [some (.inr (.inr x0)), some (.inl x1), some (.inl x2), some (.inl x3), some (.inl x4), some (.inr (.inr r2)), some (.inl i8)] [.inr (.inl j10)] u9.2 = _
                  refine Eq.trans (e1 hG PT_124 k124_59 _ _ _) ?_
                  show G 124 61 [some (.inr (.inr x0)), some (.inl x1), some (.inl x2), some (.inl x3), some (.inl x4), some (.inr (.inr r2)), some (.inl i8)] [.inl x4, .inr (.inl j10)] u9.2 = _
                  refine Eq.trans (e1 hG PT_124 k124_61 _ _ _) ?_
                  show G 124 62 [some (.inr (.inr x0)), some (.inl x1), some (.inl x2), some (.inl x3), some (.inl x4), some (.inr (.inr r2)), some (.inl i8)] [.inr (.inl x4.toInt64), .inr (.inl j10)] u9.2 = _
                  refine Eq.trans (e1 hG PT_124 k124_62 _ _ _) ?_
                  show G 124 63 [some (.inr (.inr x0)), some (.inl x1), some (.inl x2), some (.inl x3), some (.inl x4), some (.inr (.inr r2)), some (.inl i8)] [.inl (lg_cmp j10 x4.toInt64)] u9.2 = _
                  refine Eq.trans (e1 hG PT_124 k124_63 _ _ _) ?_
                  refine bfc ?_ ?_
                  · show G 124 69 [some (.inr (.inr x0)), some (.inl x1), some (.inl x2), some (.inl x3), some (.inl x4), some (.inr (.inr r2)), some (.inl i8)] [] u9.2 = _
                    refine Eq.trans (e1 hG PT_124 k124_69 _ _ _) ?_
                    show G 124 70 [some (.inr (.inr x0)), some (.inl x1), some (.inl x2), some (.inl x3), some (.inl x4), some (.inr (.inr r2)), some (.inl i8)] [.inr (.inr x0)] u9.2 = _
                    refine Eq.trans (e1 hG PT_124 k124_70 _ _ _) ?_
                    refine bdc fun r11 => ?_
                    show G 124 73 [some (.inr (.inr x0)), some (.inl x1), some (.inl x2), some (.inl x3), some (.inl x4), some (.inr (.inr r2)), some (.inl i8)] [.inr (.inr r11)] u9.2 = _
                    refine Eq.trans (e1 hG PT_124 k124_73 _ _ _) ?_
                    show G 124 75 [some (.inr (.inr x0)), some (.inl x1), some (.inl x2), some (.inl x3), some (.inl x4), some (.inr (.inr r2)), some (.inl i8)] [.inr (.inr r2), .inr (.inr r11)] u9.2 = _
                    refine Eq.trans (e1 hG PT_124 k124_75 _ _ _) ?_
                    show G 124 76 [some (.inr (.inr x0)), some (.inl x1), some (.inl x2), some (.inl x3), some (.inl x4), some (.inr (.inr r2)), some (.inl i8)] [.inl x2, .inr (.inr r2), .inr (.inr r11)] u9.2 = _
                    refine Eq.trans (e1 hG PT_124 k124_76 _ _ _) ?_
                    show G 124 77 [some (.inr (.inr x0)), some (.inl x1), some (.inl x2), some (.inl x3), some (.inl x4), some (.inr (.inr r2)), some (.inl i8)] [.inl x3, .inl x2, .inr (.inr r2), .inr (.inr r11)] u9.2 = _
                    refine Eq.trans (e1 hG PT_124 k124_77 _ _ _) ?_
                    show G 124 78 [some (.inr (.inr x0)), some (.inl x1), some (.inl x2), some (.inl x3), some (.inl x4), some (.inr (.inr r2)), some (.inl i8)] [.inl 2, .inl x3, .inl x2, .inr (.inr r2), .inr (.inr r11)] u9.2 = _
                    refine Eq.trans (e1 hG PT_124 k124_78 _ _ _) ?_
                    refine bfc ?_ ?_
                    · refine bdc fun u12 => ?_
                      refine bdc fun i13 => ?_
                      show G 124 81 [some (.inr (.inr x0)), some (.inl x1), some (.inl x2), some (.inl x3), some (.inl x4), some (.inr (.inr r2)), some (.inl i8)] [.inl i13] u12.2 = _
                      exact e1 hG PT_124 k124_81 _ _ _
                    · rfl
                  · show G 124 66 [some (.inr (.inr x0)), some (.inl x1), some (.inl x2), some (.inl x3), some (.inl x4), some (.inr (.inr r2)), some (.inl i8)] [] u9.2 = _
                    refine Eq.trans (e1 hG PT_124 k124_66 _ _ _) ?_
                    show G 124 68 [some (.inr (.inr x0)), some (.inl x1), some (.inl x2), some (.inl x3), some (.inl x4), some (.inr (.inr r2)), some (.inl i8)] [.inl (-1000000)] u9.2 = _
                    exact e1 hG PT_124 k124_68 _ _ _
                · rfl
              · show G 124 48 [some (.inr (.inr x0)), some (.inl x1), some (.inl x2), some (.inl x3), some (.inl x4), some (.inr (.inr r2)), some (.inl i8)] [] u7.2 = _
                refine Eq.trans (e1 hG PT_124 k124_48 _ _ _) ?_
                show G 124 50 [some (.inr (.inr x0)), some (.inl x1), some (.inl x2), some (.inl x3), some (.inl x4), some (.inr (.inr r2)), some (.inl i8)] [.inl i8] u7.2 = _
                exact e1 hG PT_124 k124_50 _ _ _
            · rfl
          · rfl
  · rfl
theorem b124_31 {G : AG} (hG : FIX G) (x0 : Nat) (x1 : Int32) (x2 : Int32) (x3 : Int32) (x4 : Int32) (x5 : Nat) (H : Hp) : G 124 31 [some (.inr (.inr x0)), some (.inl x1), some (.inl x2), some (.inl x3), some (.inl x4), some (.inr (.inr x5)), none] [] H = (some (some (.inl ((-1000001))), H)) := by
  refine Eq.trans (e1 hG PT_124 k124_31 _ _ _) ?_
  show G 124 33 [some (.inr (.inr x0)), some (.inl x1), some (.inl x2), some (.inl x3), some (.inl x4), some (.inr (.inr x5)), none] [.inl (-1000001)] H = _
  exact e1 hG PT_124 k124_33 _ _ _
-- StepsAhead.count(I)I
theorem PT_125 : PT 125 = pt125 := rfl
theorem k125_0 : lkp pt125 0 = iP 1 (fIld 1) := rfl
theorem k125_1 : lkp pt125 1 = iB 4 9 (b1 (fun x => decide (x < 0))) := rfl
theorem k125_4 : lkp pt125 4 = iP 5 (fIld 1) := rfl
theorem k125_5 : lkp pt125 5 = iP 6 (fK (.inl 4)) := rfl
theorem k125_6 : lkp pt125 6 = iB 9 12 (b2 (fun x y => decide (x ≤ y))) := rfl
theorem k125_9 : lkp pt125 9 = iP 11 (fK (.inl (-1000001))) := rfl
theorem k125_11 : lkp pt125 11 = iRet rI := rfl
theorem k125_12 : lkp pt125 12 = iP 13 (fK (.inl 0)) := rfl
theorem k125_13 : lkp pt125 13 = iP 14 (fIst 2) := rfl
theorem k125_14 : lkp pt125 14 = iP 15 (fK (.inl 0)) := rfl
theorem k125_15 : lkp pt125 15 = iP 16 (fIst 3) := rfl
theorem k125_16 : lkp pt125 16 = iP 17 (fIld 3) := rfl
theorem k125_17 : lkp pt125 17 = iP 18 (fAld 0) := rfl
theorem k125_18 : lkp pt125 18 = iRI 21 (gtI 44) := rfl
theorem k125_21 : lkp pt125 21 = iB 24 169 (b2 (fun x y => decide (y ≤ x))) := rfl
theorem k125_24 : lkp pt125 24 = iP 25 (fIld 3) := rfl
theorem k125_25 : lkp pt125 25 = iP 27 (fK (.inl 8)) := rfl
theorem k125_27 : lkp pt125 27 = iB 30 169 (b2 (fun x y => decide (y ≤ x))) := rfl
theorem k125_30 : lkp pt125 30 = iP 31 (fAld 0) := rfl
theorem k125_31 : lkp pt125 31 = iRR 34 (gtR 43) := rfl
theorem k125_34 : lkp pt125 34 = iP 35 (fIld 3) := rfl
theorem k125_35 : lkp pt125 35 = iRR 36 qAR := rfl
theorem k125_36 : lkp pt125 36 = iP 38 (fAst 4) := rfl
theorem k125_38 : lkp pt125 38 = iP 39 (fIld 1) := rfl
theorem k125_39 : lkp pt125 39 = iSw 155 0 [68, 74, 85, 104] := rfl
theorem k125_68 : lkp pt125 68 = iP 71 (fInc 2 1) := rfl
theorem k125_71 : lkp pt125 71 = iP 163 fGo := rfl
theorem k125_74 : lkp pt125 74 = iP 75 (fIld 2) := rfl
theorem k125_75 : lkp pt125 75 = iP 77 (fAld 4) := rfl
theorem k125_77 : lkp pt125 77 = iRI 80 (gtI 23) := rfl
theorem k125_80 : lkp pt125 80 = iP 81 (f2I (fun x y => x + y)) := rfl
theorem k125_81 : lkp pt125 81 = iP 82 (fIst 2) := rfl
theorem k125_82 : lkp pt125 82 = iP 163 fGo := rfl
theorem k125_85 : lkp pt125 85 = iP 86 (fIld 2) := rfl
theorem k125_86 : lkp pt125 86 = iP 88 (fAld 4) := rfl
theorem k125_88 : lkp pt125 88 = iCK 91 7 70 1 1 1 := rfl
theorem k125_91 : lkp pt125 91 = iB 94 98 (b1 (fun x => decide (x = 0))) := rfl
theorem k125_94 : lkp pt125 94 = iP 95 (fK (.inl 1)) := rfl
theorem k125_95 : lkp pt125 95 = iP 99 fGo := rfl
theorem k125_98 : lkp pt125 98 = iP 99 (fK (.inl 0)) := rfl
theorem k125_99 : lkp pt125 99 = iP 100 (f2I (fun x y => x + y)) := rfl
theorem k125_100 : lkp pt125 100 = iP 101 (fIst 2) := rfl
theorem k125_101 : lkp pt125 101 = iP 163 fGo := rfl
theorem k125_104 : lkp pt125 104 = iP 105 (fAld 0) := rfl
theorem k125_105 : lkp pt125 105 = iP 107 (fAld 4) := rfl
theorem k125_107 : lkp pt125 107 = iP 108 (fK (.inl 0)) := rfl
theorem k125_108 : lkp pt125 108 = iCK 111 11 67 6 3 1 := rfl
theorem k125_111 : lkp pt125 111 = iB 114 128 (b1 (fun x => decide (x ≠ 0))) := rfl
theorem k125_114 : lkp pt125 114 = iP 115 (fAld 0) := rfl
theorem k125_115 : lkp pt125 115 = iP 117 (fAld 4) := rfl
theorem k125_117 : lkp pt125 117 = iP 118 (fK (.inl 1)) := rfl
theorem k125_118 : lkp pt125 118 = iCK 121 11 67 6 3 1 := rfl
theorem k125_121 : lkp pt125 121 = iB 124 128 (b1 (fun x => decide (x ≠ 0))) := rfl
theorem k125_124 : lkp pt125 124 = iP 125 (fK (.inl 1)) := rfl
theorem k125_125 : lkp pt125 125 = iP 129 fGo := rfl
theorem k125_128 : lkp pt125 128 = iP 129 (fK (.inl 0)) := rfl
theorem k125_129 : lkp pt125 129 = iP 131 (fIst 5) := rfl
theorem k125_131 : lkp pt125 131 = iP 132 (fIld 2) := rfl
theorem k125_132 : lkp pt125 132 = iP 134 (fIld 5) := rfl
theorem k125_134 : lkp pt125 134 = iB 137 149 (b1 (fun x => decide (x = 0))) := rfl
theorem k125_137 : lkp pt125 137 = iP 139 (fAld 4) := rfl
theorem k125_139 : lkp pt125 139 = iCK 142 7 106 2 1 1 := rfl
theorem k125_142 : lkp pt125 142 = iB 145 149 (b1 (fun x => decide (x = 0))) := rfl
theorem k125_145 : lkp pt125 145 = iP 146 (fK (.inl 1)) := rfl
theorem k125_146 : lkp pt125 146 = iP 150 fGo := rfl
theorem k125_149 : lkp pt125 149 = iP 150 (fK (.inl 0)) := rfl
theorem k125_150 : lkp pt125 150 = iP 151 (f2I (fun x y => x + y)) := rfl
theorem k125_151 : lkp pt125 151 = iP 152 (fIst 2) := rfl
theorem k125_152 : lkp pt125 152 = iP 163 fGo := rfl
theorem k125_155 : lkp pt125 155 = iP 156 (fIld 2) := rfl
theorem k125_156 : lkp pt125 156 = iP 158 (fAld 4) := rfl
theorem k125_158 : lkp pt125 158 = iCK 161 7 126 3 1 1 := rfl
theorem k125_161 : lkp pt125 161 = iP 162 (f2I (fun x y => x + y)) := rfl
theorem k125_162 : lkp pt125 162 = iP 163 (fIst 2) := rfl
theorem k125_163 : lkp pt125 163 = iP 166 (fInc 3 1) := rfl
theorem k125_166 : lkp pt125 166 = iP 16 fGo := rfl
theorem k125_169 : lkp pt125 169 = iP 170 (fIld 2) := rfl
theorem k125_170 : lkp pt125 170 = iRet rI := rfl
theorem b125_0 {G : AG} (hG : FIX G) (x0 : Nat) (x1 : Int32) (H : Hp) : G 125 0 [some (.inr (.inr x0)), some (.inl x1), none, none, none, none] [] H = (bif decide ((x1 : Int32) < 0) then G 125 9 [some (.inr (.inr x0)), some (.inl x1), none, none, none, none] [] H else bif decide ((x1 : Int32) ≤ (4 : Int32)) then G 125 16 [some (.inr (.inr x0)), some (.inl x1), some (.inl 0), some (.inl 0), none, none] [] H else G 125 9 [some (.inr (.inr x0)), some (.inl x1), none, none, none, none] [] H) := by
  refine Eq.trans (e1 hG PT_125 k125_0 _ _ _) ?_
  show G 125 1 [some (.inr (.inr x0)), some (.inl x1), none, none, none, none] [.inl x1] H = _
  refine Eq.trans (e1 hG PT_125 k125_1 _ _ _) ?_
  refine bfc ?_ ?_
  · rfl
  · show G 125 4 [some (.inr (.inr x0)), some (.inl x1), none, none, none, none] [] H = _
    refine Eq.trans (e1 hG PT_125 k125_4 _ _ _) ?_
    show G 125 5 [some (.inr (.inr x0)), some (.inl x1), none, none, none, none] [.inl x1] H = _
    refine Eq.trans (e1 hG PT_125 k125_5 _ _ _) ?_
    show G 125 6 [some (.inr (.inr x0)), some (.inl x1), none, none, none, none] [.inl 4, .inl x1] H = _
    refine Eq.trans (e1 hG PT_125 k125_6 _ _ _) ?_
    refine bfc ?_ ?_
    · show G 125 12 [some (.inr (.inr x0)), some (.inl x1), none, none, none, none] [] H = _
      refine Eq.trans (e1 hG PT_125 k125_12 _ _ _) ?_
      show G 125 13 [some (.inr (.inr x0)), some (.inl x1), none, none, none, none] [.inl 0] H = _
      refine Eq.trans (e1 hG PT_125 k125_13 _ _ _) ?_
      show G 125 14 [some (.inr (.inr x0)), some (.inl x1), some (.inl 0), none, none, none] [] H = _
      refine Eq.trans (e1 hG PT_125 k125_14 _ _ _) ?_
      show G 125 15 [some (.inr (.inr x0)), some (.inl x1), some (.inl 0), none, none, none] [.inl 0] H = _
      refine Eq.trans (e1 hG PT_125 k125_15 _ _ _) ?_
      rfl
    · rfl
theorem b125_9 {G : AG} (hG : FIX G) (x0 : Nat) (x1 : Int32) (H : Hp) : G 125 9 [some (.inr (.inr x0)), some (.inl x1), none, none, none, none] [] H = (some (some (.inl ((-1000001))), H)) := by
  refine Eq.trans (e1 hG PT_125 k125_9 _ _ _) ?_
  show G 125 11 [some (.inr (.inr x0)), some (.inl x1), none, none, none, none] [.inl (-1000001)] H = _
  exact e1 hG PT_125 k125_11 _ _ _
theorem b125_16 {G : AG} (hG : FIX G) (x0 : Nat) (x1 : Int32) (x2 : Int32) (x3 : Int32) (o4 : Option AV) (o5 : Option AV) (H : Hp) : G 125 16 [some (.inr (.inr x0)), some (.inl x1), some (.inl x2), some (.inl x3), o4, o5] [] H = ((hgI H x0 44).bind fun i1 => bif decide ((i1 : Int32) ≤ (x3 : Int32)) then G 125 169 [some (.inr (.inr x0)), some (.inl x1), some (.inl x2), some (.inl x3), o4, o5] [] H else bif decide ((8 : Int32) ≤ (x3 : Int32)) then G 125 169 [some (.inr (.inr x0)), some (.inl x1), some (.inl x2), some (.inl x3), o4, o5] [] H else (hgR H x0 43).bind fun r2 => (hAR H r2 x3).bind fun r3 => bif decide ((x1 : Int32) = Int32.ofInt 0) then G 125 163 [some (.inr (.inr x0)), some (.inl x1), some (.inl (x2 + 1)), some (.inl x3), some (.inr (.inr r3)), o5] [] H else bif decide ((x1 : Int32) = Int32.ofInt (0 + 1)) then (hgI H r3 23).bind fun i12 => G 125 163 [some (.inr (.inr x0)), some (.inl x1), some (.inl (x2 + i12)), some (.inl x3), some (.inr (.inr r3)), o5] [] H else bif decide ((x1 : Int32) = Int32.ofInt ((0 + 1) + 1)) then bif Nat.beq (H.1 r3).1 7 then (G 70 0 [some (.inr (.inr r3))] [] H).bind fun u10 => (asI u10.1).bind fun i11 => bif decide ((i11 : Int32) = 0) then G 125 99 [some (.inr (.inr x0)), some (.inl x1), some (.inl x2), some (.inl x3), some (.inr (.inr r3)), o5] [.inl 0, .inl x2] u10.2 else G 125 99 [some (.inr (.inr x0)), some (.inl x1), some (.inl x2), some (.inl x3), some (.inr (.inr r3)), o5] [.inl 1, .inl x2] u10.2 else none else bif decide ((x1 : Int32) = Int32.ofInt (((0 + 1) + 1) + 1)) then bif Nat.beq (H.1 x0).1 11 then (G 67 0 [some (.inr (.inr x0)), some (.inr (.inr r3)), some (.inl 0), none, none, none] [] H).bind fun u6 => (asI u6.1).bind fun i7 => bif decide ((i7 : Int32) ≠ 0) then G 125 128 [some (.inr (.inr x0)), some (.inl x1), some (.inl x2), some (.inl x3), some (.inr (.inr r3)), o5] [] u6.2 else bif Nat.beq (u6.2.1 x0).1 11 then (G 67 0 [some (.inr (.inr x0)), some (.inr (.inr r3)), some (.inl 1), none, none, none] [] u6.2).bind fun u8 => (asI u8.1).bind fun i9 => bif decide ((i9 : Int32) ≠ 0) then G 125 128 [some (.inr (.inr x0)), some (.inl x1), some (.inl x2), some (.inl x3), some (.inr (.inr r3)), o5] [] u8.2 else G 125 129 [some (.inr (.inr x0)), some (.inl x1), some (.inl x2), some (.inl x3), some (.inr (.inr r3)), o5] [.inl 1] u8.2 else none else none else bif Nat.beq (H.1 r3).1 7 then (G 126 0 [some (.inr (.inr r3)), none, none] [] H).bind fun u4 => (asI u4.1).bind fun i5 => G 125 163 [some (.inr (.inr x0)), some (.inl x1), some (.inl (x2 + i5)), some (.inl x3), some (.inr (.inr r3)), o5] [] u4.2 else none) := by
  refine Eq.trans (e1 hG PT_125 k125_16 _ _ _) ?_
  show G 125 17 [some (.inr (.inr x0)), some (.inl x1), some (.inl x2), some (.inl x3), o4, o5] [.inl x3] H = _
  refine Eq.trans (e1 hG PT_125 k125_17 _ _ _) ?_
  show G 125 18 [some (.inr (.inr x0)), some (.inl x1), some (.inl x2), some (.inl x3), o4, o5] [.inr (.inr x0), .inl x3] H = _
  refine Eq.trans (e1 hG PT_125 k125_18 _ _ _) ?_
  refine bdc fun i1 => ?_
  show G 125 21 [some (.inr (.inr x0)), some (.inl x1), some (.inl x2), some (.inl x3), o4, o5] [.inl i1, .inl x3] H = _
  refine Eq.trans (e1 hG PT_125 k125_21 _ _ _) ?_
  refine bfc ?_ ?_
  · rfl
  · show G 125 24 [some (.inr (.inr x0)), some (.inl x1), some (.inl x2), some (.inl x3), o4, o5] [] H = _
    refine Eq.trans (e1 hG PT_125 k125_24 _ _ _) ?_
    show G 125 25 [some (.inr (.inr x0)), some (.inl x1), some (.inl x2), some (.inl x3), o4, o5] [.inl x3] H = _
    refine Eq.trans (e1 hG PT_125 k125_25 _ _ _) ?_
    show G 125 27 [some (.inr (.inr x0)), some (.inl x1), some (.inl x2), some (.inl x3), o4, o5] [.inl 8, .inl x3] H = _
    refine Eq.trans (e1 hG PT_125 k125_27 _ _ _) ?_
    refine bfc ?_ ?_
    · rfl
    · show G 125 30 [some (.inr (.inr x0)), some (.inl x1), some (.inl x2), some (.inl x3), o4, o5] [] H = _
      refine Eq.trans (e1 hG PT_125 k125_30 _ _ _) ?_
      show G 125 31 [some (.inr (.inr x0)), some (.inl x1), some (.inl x2), some (.inl x3), o4, o5] [.inr (.inr x0)] H = _
      refine Eq.trans (e1 hG PT_125 k125_31 _ _ _) ?_
      refine bdc fun r2 => ?_
      show G 125 34 [some (.inr (.inr x0)), some (.inl x1), some (.inl x2), some (.inl x3), o4, o5] [.inr (.inr r2)] H = _
      refine Eq.trans (e1 hG PT_125 k125_34 _ _ _) ?_
      show G 125 35 [some (.inr (.inr x0)), some (.inl x1), some (.inl x2), some (.inl x3), o4, o5] [.inl x3, .inr (.inr r2)] H = _
      refine Eq.trans (e1 hG PT_125 k125_35 _ _ _) ?_
      refine bdc fun r3 => ?_
      show G 125 36 [some (.inr (.inr x0)), some (.inl x1), some (.inl x2), some (.inl x3), o4, o5] [.inr (.inr r3)] H = _
      refine Eq.trans (e1 hG PT_125 k125_36 _ _ _) ?_
      show G 125 38 [some (.inr (.inr x0)), some (.inl x1), some (.inl x2), some (.inl x3), some (.inr (.inr r3)), o5] [] H = _
      refine Eq.trans (e1 hG PT_125 k125_38 _ _ _) ?_
      show G 125 39 [some (.inr (.inr x0)), some (.inl x1), some (.inl x2), some (.inl x3), some (.inr (.inr r3)), o5] [.inl x1] H = _
      refine Eq.trans (e1 hG PT_125 k125_39 _ _ _) ?_
      refine bfc ?_ ?_
      · show G 125 68 [some (.inr (.inr x0)), some (.inl x1), some (.inl x2), some (.inl x3), some (.inr (.inr r3)), o5] [] H = _
        refine Eq.trans (e1 hG PT_125 k125_68 _ _ _) ?_
        show G 125 71 [some (.inr (.inr x0)), some (.inl x1), some (.inl (x2 + 1)), some (.inl x3), some (.inr (.inr r3)), o5] [] H = _
        refine Eq.trans (e1 hG PT_125 k125_71 _ _ _) ?_
        rfl
      · refine bfc ?_ ?_
        · show G 125 74 [some (.inr (.inr x0)), some (.inl x1), some (.inl x2), some (.inl x3), some (.inr (.inr r3)), o5] [] H = _
          refine Eq.trans (e1 hG PT_125 k125_74 _ _ _) ?_
          show G 125 75 [some (.inr (.inr x0)), some (.inl x1), some (.inl x2), some (.inl x3), some (.inr (.inr r3)), o5] [.inl x2] H = _
          refine Eq.trans (e1 hG PT_125 k125_75 _ _ _) ?_
          show G 125 77 [some (.inr (.inr x0)), some (.inl x1), some (.inl x2), some (.inl x3), some (.inr (.inr r3)), o5] [.inr (.inr r3), .inl x2] H = _
          refine Eq.trans (e1 hG PT_125 k125_77 _ _ _) ?_
          refine bdc fun i12 => ?_
          show G 125 80 [some (.inr (.inr x0)), some (.inl x1), some (.inl x2), some (.inl x3), some (.inr (.inr r3)), o5] [.inl i12, .inl x2] H = _
          refine Eq.trans (e1 hG PT_125 k125_80 _ _ _) ?_
          show G 125 81 [some (.inr (.inr x0)), some (.inl x1), some (.inl x2), some (.inl x3), some (.inr (.inr r3)), o5] [.inl (x2 + i12)] H = _
          refine Eq.trans (e1 hG PT_125 k125_81 _ _ _) ?_
          show G 125 82 [some (.inr (.inr x0)), some (.inl x1), some (.inl (x2 + i12)), some (.inl x3), some (.inr (.inr r3)), o5] [] H = _
          refine Eq.trans (e1 hG PT_125 k125_82 _ _ _) ?_
          rfl
        · refine bfc ?_ ?_
          · show G 125 85 [some (.inr (.inr x0)), some (.inl x1), some (.inl x2), some (.inl x3), some (.inr (.inr r3)), o5] [] H = _
            refine Eq.trans (e1 hG PT_125 k125_85 _ _ _) ?_
            show G 125 86 [some (.inr (.inr x0)), some (.inl x1), some (.inl x2), some (.inl x3), some (.inr (.inr r3)), o5] [.inl x2] H = _
            refine Eq.trans (e1 hG PT_125 k125_86 _ _ _) ?_
            show G 125 88 [some (.inr (.inr x0)), some (.inl x1), some (.inl x2), some (.inl x3), some (.inr (.inr r3)), o5] [.inr (.inr r3), .inl x2] H = _
            refine Eq.trans (e1 hG PT_125 k125_88 _ _ _) ?_
            refine bfc ?_ ?_
            · refine bdc fun u10 => ?_
              refine bdc fun i11 => ?_
              show G 125 91 [some (.inr (.inr x0)), some (.inl x1), some (.inl x2), some (.inl x3), some (.inr (.inr r3)), o5] [.inl i11, .inl x2] u10.2 = _
              refine Eq.trans (e1 hG PT_125 k125_91 _ _ _) ?_
              refine bfc ?_ ?_
              · show G 125 98 [some (.inr (.inr x0)), some (.inl x1), some (.inl x2), some (.inl x3), some (.inr (.inr r3)), o5] [.inl x2] u10.2 = _
                refine Eq.trans (e1 hG PT_125 k125_98 _ _ _) ?_
                rfl
              · show G 125 94 [some (.inr (.inr x0)), some (.inl x1), some (.inl x2), some (.inl x3), some (.inr (.inr r3)), o5] [.inl x2] u10.2 = _
                refine Eq.trans (e1 hG PT_125 k125_94 _ _ _) ?_
                show G 125 95 [some (.inr (.inr x0)), some (.inl x1), some (.inl x2), some (.inl x3), some (.inr (.inr r3)), o5] [.inl 1, .inl x2] u10.2 = _
                refine Eq.trans (e1 hG PT_125 k125_95 _ _ _) ?_
                rfl
            · rfl
          · refine bfc ?_ ?_
            · show G 125 104 [some (.inr (.inr x0)), some (.inl x1), some (.inl x2), some (.inl x3), some (.inr (.inr r3)), o5] [] H = _
              refine Eq.trans (e1 hG PT_125 k125_104 _ _ _) ?_
              show G 125 105 [some (.inr (.inr x0)), some (.inl x1), some (.inl x2), some (.inl x3), some (.inr (.inr r3)), o5] [.inr (.inr x0)] H = _
              refine Eq.trans (e1 hG PT_125 k125_105 _ _ _) ?_
              show G 125 107 [some (.inr (.inr x0)), some (.inl x1), some (.inl x2), some (.inl x3), some (.inr (.inr r3)), o5] [.inr (.inr r3), .inr (.inr x0)] H = _
              refine Eq.trans (e1 hG PT_125 k125_107 _ _ _) ?_
              show G 125 108 [some (.inr (.inr x0)), some (.inl x1), some (.inl x2), some (.inl x3), some (.inr (.inr r3)), o5] [.inl 0, .inr (.inr r3), .inr (.inr x0)] H = _
              refine Eq.trans (e1 hG PT_125 k125_108 _ _ _) ?_
              refine bfc ?_ ?_
              · refine bdc fun u6 => ?_
                refine bdc fun i7 => ?_
                show G 125 111 [some (.inr (.inr x0)), some (.inl x1), some (.inl x2), some (.inl x3), some (.inr (.inr r3)), o5] [.inl i7] u6.2 = _
                refine Eq.trans (e1 hG PT_125 k125_111 _ _ _) ?_
                refine bfc ?_ ?_
                · rfl
                · show G 125 114 [some (.inr (.inr x0)), some (.inl x1), some (.inl x2), some (.inl x3), some (.inr (.inr r3)), o5] [] u6.2 = _
                  refine Eq.trans (e1 hG PT_125 k125_114 _ _ _) ?_
                  show G 125 115 [some (.inr (.inr x0)), some (.inl x1), some (.inl x2), some (.inl x3), some (.inr (.inr r3)), o5] [.inr (.inr x0)] u6.2 = _
                  refine Eq.trans (e1 hG PT_125 k125_115 _ _ _) ?_
                  show G 125 117 [some (.inr (.inr x0)), some (.inl x1), some (.inl x2), some (.inl x3), some (.inr (.inr r3)), o5] [.inr (.inr r3), .inr (.inr x0)] u6.2 = _
                  refine Eq.trans (e1 hG PT_125 k125_117 _ _ _) ?_
                  show G 125 118 [some (.inr (.inr x0)), some (.inl x1), some (.inl x2), some (.inl x3), some (.inr (.inr r3)), o5] [.inl 1, .inr (.inr r3), .inr (.inr x0)] u6.2 = _
                  refine Eq.trans (e1 hG PT_125 k125_118 _ _ _) ?_
                  refine bfc ?_ ?_
                  · refine bdc fun u8 => ?_
                    refine bdc fun i9 => ?_
                    show G 125 121 [some (.inr (.inr x0)), some (.inl x1), some (.inl x2), some (.inl x3), some (.inr (.inr r3)), o5] [.inl i9] u8.2 = _
                    refine Eq.trans (e1 hG PT_125 k125_121 _ _ _) ?_
                    refine bfc ?_ ?_
                    · rfl
                    · show G 125 124 [some (.inr (.inr x0)), some (.inl x1), some (.inl x2), some (.inl x3), some (.inr (.inr r3)), o5] [] u8.2 = _
                      refine Eq.trans (e1 hG PT_125 k125_124 _ _ _) ?_
                      show G 125 125 [some (.inr (.inr x0)), some (.inl x1), some (.inl x2), some (.inl x3), some (.inr (.inr r3)), o5] [.inl 1] u8.2 = _
                      refine Eq.trans (e1 hG PT_125 k125_125 _ _ _) ?_
                      rfl
                  · rfl
              · rfl
            · show G 125 155 [some (.inr (.inr x0)), some (.inl x1), some (.inl x2), some (.inl x3), some (.inr (.inr r3)), o5] [] H = _
              refine Eq.trans (e1 hG PT_125 k125_155 _ _ _) ?_
              show G 125 156 [some (.inr (.inr x0)), some (.inl x1), some (.inl x2), some (.inl x3), some (.inr (.inr r3)), o5] [.inl x2] H = _
              refine Eq.trans (e1 hG PT_125 k125_156 _ _ _) ?_
              show G 125 158 [some (.inr (.inr x0)), some (.inl x1), some (.inl x2), some (.inl x3), some (.inr (.inr r3)), o5] [.inr (.inr r3), .inl x2] H = _
              refine Eq.trans (e1 hG PT_125 k125_158 _ _ _) ?_
              refine bfc ?_ ?_
              · refine bdc fun u4 => ?_
                refine bdc fun i5 => ?_
                show G 125 161 [some (.inr (.inr x0)), some (.inl x1), some (.inl x2), some (.inl x3), some (.inr (.inr r3)), o5] [.inl i5, .inl x2] u4.2 = _
                refine Eq.trans (e1 hG PT_125 k125_161 _ _ _) ?_
                show G 125 162 [some (.inr (.inr x0)), some (.inl x1), some (.inl x2), some (.inl x3), some (.inr (.inr r3)), o5] [.inl (x2 + i5)] u4.2 = _
                refine Eq.trans (e1 hG PT_125 k125_162 _ _ _) ?_
                rfl
              · rfl
theorem b125_99 {G : AG} (hG : FIX G) (x0 : Nat) (x1 : Int32) (x2 : Int32) (x3 : Int32) (x4 : Nat) (o5 : Option AV) (s0 : Int32) (s1 : Int32) (H : Hp) : G 125 99 [some (.inr (.inr x0)), some (.inl x1), some (.inl x2), some (.inl x3), some (.inr (.inr x4)), o5] [.inl s0, .inl s1] H = (G 125 163 [some (.inr (.inr x0)), some (.inl x1), some (.inl (s1 + s0)), some (.inl x3), some (.inr (.inr x4)), o5] [] H) := by
  refine Eq.trans (e1 hG PT_125 k125_99 _ _ _) ?_
  show G 125 100 [some (.inr (.inr x0)), some (.inl x1), some (.inl x2), some (.inl x3), some (.inr (.inr x4)), o5] [.inl (s1 + s0)] H = _
  refine Eq.trans (e1 hG PT_125 k125_100 _ _ _) ?_
  show G 125 101 [some (.inr (.inr x0)), some (.inl x1), some (.inl (s1 + s0)), some (.inl x3), some (.inr (.inr x4)), o5] [] H = _
  refine Eq.trans (e1 hG PT_125 k125_101 _ _ _) ?_
  rfl
theorem b125_128 {G : AG} (hG : FIX G) (x0 : Nat) (x1 : Int32) (x2 : Int32) (x3 : Int32) (x4 : Nat) (o5 : Option AV) (H : Hp) : G 125 128 [some (.inr (.inr x0)), some (.inl x1), some (.inl x2), some (.inl x3), some (.inr (.inr x4)), o5] [] H = (G 125 129 [some (.inr (.inr x0)), some (.inl x1), some (.inl x2), some (.inl x3), some (.inr (.inr x4)), o5] [.inl 0] H) := by
  refine Eq.trans (e1 hG PT_125 k125_128 _ _ _) ?_
  rfl
theorem b125_129 {G : AG} (hG : FIX G) (x0 : Nat) (x1 : Int32) (x2 : Int32) (x3 : Int32) (x4 : Nat) (o5 : Option AV) (s0 : Int32) (H : Hp) : G 125 129 [some (.inr (.inr x0)), some (.inl x1), some (.inl x2), some (.inl x3), some (.inr (.inr x4)), o5] [.inl s0] H = (bif decide ((s0 : Int32) = 0) then G 125 149 [some (.inr (.inr x0)), some (.inl x1), some (.inl x2), some (.inl x3), some (.inr (.inr x4)), some (.inl s0)] [.inl x2] H else bif Nat.beq (H.1 x4).1 7 then (G 106 0 [some (.inr (.inr x4)), none] [] H).bind fun u1 => (asI u1.1).bind fun i2 => bif decide ((i2 : Int32) = 0) then G 125 149 [some (.inr (.inr x0)), some (.inl x1), some (.inl x2), some (.inl x3), some (.inr (.inr x4)), some (.inl s0)] [.inl x2] u1.2 else G 125 150 [some (.inr (.inr x0)), some (.inl x1), some (.inl x2), some (.inl x3), some (.inr (.inr x4)), some (.inl s0)] [.inl 1, .inl x2] u1.2 else none) := by
  refine Eq.trans (e1 hG PT_125 k125_129 _ _ _) ?_
  show G 125 131 [some (.inr (.inr x0)), some (.inl x1), some (.inl x2), some (.inl x3), some (.inr (.inr x4)), some (.inl s0)] [] H = _
  refine Eq.trans (e1 hG PT_125 k125_131 _ _ _) ?_
  show G 125 132 [some (.inr (.inr x0)), some (.inl x1), some (.inl x2), some (.inl x3), some (.inr (.inr x4)), some (.inl s0)] [.inl x2] H = _
  refine Eq.trans (e1 hG PT_125 k125_132 _ _ _) ?_
  show G 125 134 [some (.inr (.inr x0)), some (.inl x1), some (.inl x2), some (.inl x3), some (.inr (.inr x4)), some (.inl s0)] [.inl s0, .inl x2] H = _
  refine Eq.trans (e1 hG PT_125 k125_134 _ _ _) ?_
  refine bfc ?_ ?_
  · rfl
  · show G 125 137 [some (.inr (.inr x0)), some (.inl x1), some (.inl x2), some (.inl x3), some (.inr (.inr x4)), some (.inl s0)] [.inl x2] H = _
    refine Eq.trans (e1 hG PT_125 k125_137 _ _ _) ?_
    show G 125 139 [some (.inr (.inr x0)), some (.inl x1), some (.inl x2), some (.inl x3), some (.inr (.inr x4)), some (.inl s0)] [.inr (.inr x4), .inl x2] H = _
    refine Eq.trans (e1 hG PT_125 k125_139 _ _ _) ?_
    refine bfc ?_ ?_
    · refine bdc fun u1 => ?_
      refine bdc fun i2 => ?_
      show G 125 142 [some (.inr (.inr x0)), some (.inl x1), some (.inl x2), some (.inl x3), some (.inr (.inr x4)), some (.inl s0)] [.inl i2, .inl x2] u1.2 = _
      refine Eq.trans (e1 hG PT_125 k125_142 _ _ _) ?_
      refine bfc ?_ ?_
      · rfl
      · show G 125 145 [some (.inr (.inr x0)), some (.inl x1), some (.inl x2), some (.inl x3), some (.inr (.inr x4)), some (.inl s0)] [.inl x2] u1.2 = _
        refine Eq.trans (e1 hG PT_125 k125_145 _ _ _) ?_
        show G 125 146 [some (.inr (.inr x0)), some (.inl x1), some (.inl x2), some (.inl x3), some (.inr (.inr x4)), some (.inl s0)] [.inl 1, .inl x2] u1.2 = _
        refine Eq.trans (e1 hG PT_125 k125_146 _ _ _) ?_
        rfl
    · rfl
theorem b125_149 {G : AG} (hG : FIX G) (x0 : Nat) (x1 : Int32) (x2 : Int32) (x3 : Int32) (x4 : Nat) (x5 : Int32) (s0 : Int32) (H : Hp) : G 125 149 [some (.inr (.inr x0)), some (.inl x1), some (.inl x2), some (.inl x3), some (.inr (.inr x4)), some (.inl x5)] [.inl s0] H = (G 125 150 [some (.inr (.inr x0)), some (.inl x1), some (.inl x2), some (.inl x3), some (.inr (.inr x4)), some (.inl x5)] [.inl 0, .inl s0] H) := by
  refine Eq.trans (e1 hG PT_125 k125_149 _ _ _) ?_
  rfl
theorem b125_150 {G : AG} (hG : FIX G) (x0 : Nat) (x1 : Int32) (x2 : Int32) (x3 : Int32) (x4 : Nat) (x5 : Int32) (s0 : Int32) (s1 : Int32) (H : Hp) : G 125 150 [some (.inr (.inr x0)), some (.inl x1), some (.inl x2), some (.inl x3), some (.inr (.inr x4)), some (.inl x5)] [.inl s0, .inl s1] H = (G 125 163 [some (.inr (.inr x0)), some (.inl x1), some (.inl (s1 + s0)), some (.inl x3), some (.inr (.inr x4)), some (.inl x5)] [] H) := by
  refine Eq.trans (e1 hG PT_125 k125_150 _ _ _) ?_
  show G 125 151 [some (.inr (.inr x0)), some (.inl x1), some (.inl x2), some (.inl x3), some (.inr (.inr x4)), some (.inl x5)] [.inl (s1 + s0)] H = _
  refine Eq.trans (e1 hG PT_125 k125_151 _ _ _) ?_
  show G 125 152 [some (.inr (.inr x0)), some (.inl x1), some (.inl (s1 + s0)), some (.inl x3), some (.inr (.inr x4)), some (.inl x5)] [] H = _
  refine Eq.trans (e1 hG PT_125 k125_152 _ _ _) ?_
  rfl
theorem b125_163 {G : AG} (hG : FIX G) (x0 : Nat) (x1 : Int32) (x2 : Int32) (x3 : Int32) (x4 : Nat) (o5 : Option AV) (H : Hp) : G 125 163 [some (.inr (.inr x0)), some (.inl x1), some (.inl x2), some (.inl x3), some (.inr (.inr x4)), o5] [] H = (G 125 16 [some (.inr (.inr x0)), some (.inl x1), some (.inl x2), some (.inl (x3 + 1)), some (.inr (.inr x4)), o5] [] H) := by
  refine Eq.trans (e1 hG PT_125 k125_163 _ _ _) ?_
  show G 125 166 [some (.inr (.inr x0)), some (.inl x1), some (.inl x2), some (.inl (x3 + 1)), some (.inr (.inr x4)), o5] [] H = _
  refine Eq.trans (e1 hG PT_125 k125_166 _ _ _) ?_
  rfl
theorem b125_169 {G : AG} (hG : FIX G) (x0 : Nat) (x1 : Int32) (x2 : Int32) (x3 : Int32) (o4 : Option AV) (o5 : Option AV) (H : Hp) : G 125 169 [some (.inr (.inr x0)), some (.inl x1), some (.inl x2), some (.inl x3), o4, o5] [] H = (some (some (.inl x2), H)) := by
  refine Eq.trans (e1 hG PT_125 k125_169 _ _ _) ?_
  show G 125 170 [some (.inr (.inr x0)), some (.inl x1), some (.inl x2), some (.inl x3), o4, o5] [.inl x2] H = _
  exact e1 hG PT_125 k125_170 _ _ _
-- StepsAhead$Routine.callCount()I
theorem PT_126 : PT 126 = pt126 := rfl
theorem k126_0 : lkp pt126 0 = iP 1 (fK (.inl 0)) := rfl
theorem k126_1 : lkp pt126 1 = iP 2 (fIst 1) := rfl
theorem k126_2 : lkp pt126 2 = iP 3 (fK (.inl 0)) := rfl
theorem k126_3 : lkp pt126 3 = iP 4 (fIst 2) := rfl
theorem k126_4 : lkp pt126 4 = iP 5 (fIld 2) := rfl
theorem k126_5 : lkp pt126 5 = iP 6 (fAld 0) := rfl
theorem k126_6 : lkp pt126 6 = iRI 9 (gtI 23) := rfl
theorem k126_9 : lkp pt126 9 = iB 12 32 (b2 (fun x y => decide (y ≤ x))) := rfl
theorem k126_12 : lkp pt126 12 = iP 13 (fAld 0) := rfl
theorem k126_13 : lkp pt126 13 = iP 14 (fIld 2) := rfl
theorem k126_14 : lkp pt126 14 = iCK 17 7 18 2 2 3 := rfl
theorem k126_17 : lkp pt126 17 = iRI 20 (qInst [1] [2, 3, 4, 10]) := rfl
theorem k126_20 : lkp pt126 20 = iB 23 26 (b1 (fun x => decide (x = 0))) := rfl
theorem k126_23 : lkp pt126 23 = iP 26 (fInc 1 1) := rfl
theorem k126_26 : lkp pt126 26 = iP 29 (fInc 2 1) := rfl
theorem k126_29 : lkp pt126 29 = iP 4 fGo := rfl
theorem k126_32 : lkp pt126 32 = iP 33 (fIld 1) := rfl
theorem k126_33 : lkp pt126 33 = iRet rI := rfl
theorem b126_0 {G : AG} (hG : FIX G) (x0 : Nat) (H : Hp) : G 126 0 [some (.inr (.inr x0)), none, none] [] H = (G 126 4 [some (.inr (.inr x0)), some (.inl 0), some (.inl 0)] [] H) := by
  refine Eq.trans (e1 hG PT_126 k126_0 _ _ _) ?_
  show G 126 1 [some (.inr (.inr x0)), none, none] [.inl 0] H = _
  refine Eq.trans (e1 hG PT_126 k126_1 _ _ _) ?_
  show G 126 2 [some (.inr (.inr x0)), some (.inl 0), none] [] H = _
  refine Eq.trans (e1 hG PT_126 k126_2 _ _ _) ?_
  show G 126 3 [some (.inr (.inr x0)), some (.inl 0), none] [.inl 0] H = _
  refine Eq.trans (e1 hG PT_126 k126_3 _ _ _) ?_
  rfl
theorem b126_4 {G : AG} (hG : FIX G) (x0 : Nat) (x1 : Int32) (x2 : Int32) (H : Hp) : G 126 4 [some (.inr (.inr x0)), some (.inl x1), some (.inl x2)] [] H = ((hgI H x0 23).bind fun i1 => bif decide ((i1 : Int32) ≤ (x2 : Int32)) then some (some (.inl x1), H) else bif Nat.beq (H.1 x0).1 7 then (G 18 0 [some (.inr (.inr x0)), some (.inl x2)] [] H).bind fun u2 => (asR u2.1).bind fun r3 => ((bif Nat.beq r3 0 then some (0 : Int32) else bif [1].any (Nat.beq (u2.2.1 r3).1) then some 1 else bif [2, 3, 4, 10].any (Nat.beq (u2.2.1 r3).1) then some 0 else none)).bind fun i4 => bif decide ((i4 : Int32) = 0) then G 126 26 [some (.inr (.inr x0)), some (.inl x1), some (.inl x2)] [] u2.2 else G 126 26 [some (.inr (.inr x0)), some (.inl (x1 + 1)), some (.inl x2)] [] u2.2 else none) := by
  refine Eq.trans (e1 hG PT_126 k126_4 _ _ _) ?_
  show G 126 5 [some (.inr (.inr x0)), some (.inl x1), some (.inl x2)] [.inl x2] H = _
  refine Eq.trans (e1 hG PT_126 k126_5 _ _ _) ?_
  show G 126 6 [some (.inr (.inr x0)), some (.inl x1), some (.inl x2)] [.inr (.inr x0), .inl x2] H = _
  refine Eq.trans (e1 hG PT_126 k126_6 _ _ _) ?_
  refine bdc fun i1 => ?_
  show G 126 9 [some (.inr (.inr x0)), some (.inl x1), some (.inl x2)] [.inl i1, .inl x2] H = _
  refine Eq.trans (e1 hG PT_126 k126_9 _ _ _) ?_
  refine bfc ?_ ?_
  · show G 126 32 [some (.inr (.inr x0)), some (.inl x1), some (.inl x2)] [] H = _
    refine Eq.trans (e1 hG PT_126 k126_32 _ _ _) ?_
    show G 126 33 [some (.inr (.inr x0)), some (.inl x1), some (.inl x2)] [.inl x1] H = _
    exact e1 hG PT_126 k126_33 _ _ _
  · show G 126 12 [some (.inr (.inr x0)), some (.inl x1), some (.inl x2)] [] H = _
    refine Eq.trans (e1 hG PT_126 k126_12 _ _ _) ?_
    show G 126 13 [some (.inr (.inr x0)), some (.inl x1), some (.inl x2)] [.inr (.inr x0)] H = _
    refine Eq.trans (e1 hG PT_126 k126_13 _ _ _) ?_
    show G 126 14 [some (.inr (.inr x0)), some (.inl x1), some (.inl x2)] [.inl x2, .inr (.inr x0)] H = _
    refine Eq.trans (e1 hG PT_126 k126_14 _ _ _) ?_
    refine bfc ?_ ?_
    · refine bdc fun u2 => ?_
      refine bdc fun r3 => ?_
      show G 126 17 [some (.inr (.inr x0)), some (.inl x1), some (.inl x2)] [.inr (.inr r3)] u2.2 = _
      refine Eq.trans (e1 hG PT_126 k126_17 _ _ _) ?_
      refine bdc fun i4 => ?_
      show G 126 20 [some (.inr (.inr x0)), some (.inl x1), some (.inl x2)] [.inl i4] u2.2 = _
      refine Eq.trans (e1 hG PT_126 k126_20 _ _ _) ?_
      refine bfc ?_ ?_
      · rfl
      · show G 126 23 [some (.inr (.inr x0)), some (.inl x1), some (.inl x2)] [] u2.2 = _
        refine Eq.trans (e1 hG PT_126 k126_23 _ _ _) ?_
        rfl
    · rfl
theorem b126_26 {G : AG} (hG : FIX G) (x0 : Nat) (x1 : Int32) (x2 : Int32) (H : Hp) : G 126 26 [some (.inr (.inr x0)), some (.inl x1), some (.inl x2)] [] H = (G 126 4 [some (.inr (.inr x0)), some (.inl x1), some (.inl (x2 + 1))] [] H) := by
  refine Eq.trans (e1 hG PT_126 k126_26 _ _ _) ?_
  show G 126 29 [some (.inr (.inr x0)), some (.inl x1), some (.inl (x2 + 1))] [] H = _
  refine Eq.trans (e1 hG PT_126 k126_29 _ _ _) ?_
  rfl
-- StepsAheadModel.<init>()V
theorem PT_127 : PT 127 = pt127 := rfl
theorem k127_0 : lkp pt127 0 = iP 1 (fAld 0) := rfl
theorem k127_1 : lkp pt127 1 = iW 4 wObj := rfl
theorem k127_4 : lkp pt127 4 = iP 5 (fAld 0) := rfl
theorem k127_5 : lkp pt127 5 = iP 7 (fK (.inl 8)) := rfl
theorem k127_7 : lkp pt127 7 = iW 9 (wNa 20) := rfl
theorem k127_9 : lkp pt127 9 = iW 12 (ptR 51) := rfl
theorem k127_12 : lkp pt127 12 = iP 13 (fAld 0) := rfl
theorem k127_13 : lkp pt127 13 = iP 16 (fK (.inl 192)) := rfl
theorem k127_16 : lkp pt127 16 = iW 18 (wNa 20) := rfl
theorem k127_18 : lkp pt127 18 = iW 21 (ptR 52) := rfl
theorem k127_21 : lkp pt127 21 = iP 22 (fAld 0) := rfl
theorem k127_22 : lkp pt127 22 = iP 25 (fK (.inl 192)) := rfl
theorem k127_25 : lkp pt127 25 = iW 27 (wNa 20) := rfl
theorem k127_27 : lkp pt127 27 = iW 30 (ptR 53) := rfl
theorem k127_30 : lkp pt127 30 = iP 31 (fAld 0) := rfl
theorem k127_31 : lkp pt127 31 = iP 34 (fK (.inl 192)) := rfl
theorem k127_34 : lkp pt127 34 = iW 36 (wNa 20) := rfl
theorem k127_36 : lkp pt127 36 = iW 39 (ptR 54) := rfl
theorem k127_39 : lkp pt127 39 = iP 40 (fAld 0) := rfl
theorem k127_40 : lkp pt127 40 = iP 43 (fK (.inl 2304)) := rfl
theorem k127_43 : lkp pt127 43 = iW 45 (wNa 20) := rfl
theorem k127_45 : lkp pt127 45 = iW 48 (ptR 55) := rfl
theorem k127_48 : lkp pt127 48 = iP 49 (fAld 0) := rfl
theorem k127_49 : lkp pt127 49 = iP 51 (fK (.inl 12)) := rfl
theorem k127_51 : lkp pt127 51 = iW 53 (wNa 20) := rfl
theorem k127_53 : lkp pt127 53 = iW 56 (ptR 56) := rfl
theorem k127_56 : lkp pt127 56 = iP 57 (fAld 0) := rfl
theorem k127_57 : lkp pt127 57 = iP 58 (fK (.inl 1)) := rfl
theorem k127_58 : lkp pt127 58 = iW 61 (ptI 57) := rfl
theorem k127_61 : lkp pt127 61 = iP 62 (fAld 0) := rfl
theorem k127_62 : lkp pt127 62 = iP 64 (fK (.inl 16)) := rfl
theorem k127_64 : lkp pt127 64 = iW 66 (wNa 20) := rfl
theorem k127_66 : lkp pt127 66 = iW 69 (ptR 58) := rfl
theorem k127_69 : lkp pt127 69 = iP 70 (fAld 0) := rfl
theorem k127_70 : lkp pt127 70 = iP 73 (fK (.inl 1260)) := rfl
theorem k127_73 : lkp pt127 73 = iW 75 (wNa 20) := rfl
theorem k127_75 : lkp pt127 75 = iW 78 (ptR 61) := rfl
theorem k127_78 : lkp pt127 78 = iP 79 (fAld 0) := rfl
theorem k127_79 : lkp pt127 79 = iP 82 (fK (.inl 7776)) := rfl
theorem k127_82 : lkp pt127 82 = iW 84 (wNa 20) := rfl
theorem k127_84 : lkp pt127 84 = iW 87 (ptR 62) := rfl
theorem k127_87 : lkp pt127 87 = iP 88 (fAld 0) := rfl
theorem k127_88 : lkp pt127 88 = iP 90 (fK (.inl 24)) := rfl
theorem k127_90 : lkp pt127 90 = iW 92 (wNa 20) := rfl
theorem k127_92 : lkp pt127 92 = iW 95 (ptR 64) := rfl
theorem k127_95 : lkp pt127 95 = iP 96 (fAld 0) := rfl
theorem k127_96 : lkp pt127 96 = iP 98 (fK (.inl 24)) := rfl
theorem k127_98 : lkp pt127 98 = iW 100 (wNa 20) := rfl
theorem k127_100 : lkp pt127 100 = iW 103 (ptR 65) := rfl
theorem k127_103 : lkp pt127 103 = iP 104 (fAld 0) := rfl
theorem k127_104 : lkp pt127 104 = iP 107 (fK (.inl 17640)) := rfl
theorem k127_107 : lkp pt127 107 = iW 109 (wNa 21) := rfl
theorem k127_109 : lkp pt127 109 = iW 112 (ptR 67) := rfl
theorem k127_112 : lkp pt127 112 = iP 113 (fAld 0) := rfl
theorem k127_113 : lkp pt127 113 = iP 115 (fK (.inl 8)) := rfl
theorem k127_115 : lkp pt127 115 = iW 117 (wNa 22) := rfl
theorem k127_117 : lkp pt127 117 = iW 120 (ptR 68) := rfl
theorem k127_120 : lkp pt127 120 = iP 121 (fAld 0) := rfl
theorem k127_121 : lkp pt127 121 = iP 123 (fK (.inl 8)) := rfl
theorem k127_123 : lkp pt127 123 = iW 125 (wNa 22) := rfl
theorem k127_125 : lkp pt127 125 = iW 128 (ptR 69) := rfl
theorem k127_128 : lkp pt127 128 = iP 129 (fAld 0) := rfl
theorem k127_129 : lkp pt127 129 = iP 131 (fK (.inl 16)) := rfl
theorem k127_131 : lkp pt127 131 = iW 133 (wNa 22) := rfl
theorem k127_133 : lkp pt127 133 = iW 136 (ptR 70) := rfl
theorem k127_136 : lkp pt127 136 = iP 137 (fAld 0) := rfl
theorem k127_137 : lkp pt127 137 = iP 140 (fK (.inl 252)) := rfl
theorem k127_140 : lkp pt127 140 = iW 142 (wNa 21) := rfl
theorem k127_142 : lkp pt127 142 = iW 145 (ptR 71) := rfl
theorem k127_145 : lkp pt127 145 = iP 146 (fAld 0) := rfl
theorem k127_146 : lkp pt127 146 = iP 149 (fK (.inl 252)) := rfl
theorem k127_149 : lkp pt127 149 = iW 151 (wNa 21) := rfl
theorem k127_151 : lkp pt127 151 = iW 154 (ptR 72) := rfl
theorem k127_154 : lkp pt127 154 = iP 155 (fAld 0) := rfl
theorem k127_155 : lkp pt127 155 = iP 157 (fK (.inl 30)) := rfl
theorem k127_157 : lkp pt127 157 = iW 159 (wNa 20) := rfl
theorem k127_159 : lkp pt127 159 = iP 160 fDup := rfl
theorem k127_160 : lkp pt127 160 = iP 161 (fK (.inl 0)) := rfl
theorem k127_161 : lkp pt127 161 = iP 162 (fK (.inl 0)) := rfl
theorem k127_162 : lkp pt127 162 = iW 163 wAI := rfl
theorem k127_163 : lkp pt127 163 = iP 164 fDup := rfl
theorem k127_164 : lkp pt127 164 = iP 165 (fK (.inl 1)) := rfl
theorem k127_165 : lkp pt127 165 = iP 167 (fK (.inl 60)) := rfl
theorem k127_167 : lkp pt127 167 = iW 168 wAI := rfl
theorem k127_168 : lkp pt127 168 = iP 169 fDup := rfl
theorem k127_169 : lkp pt127 169 = iP 170 (fK (.inl 2)) := rfl
theorem k127_170 : lkp pt127 170 = iP 171 (fK (.inl 0)) := rfl
theorem k127_171 : lkp pt127 171 = iW 172 wAI := rfl
theorem k127_172 : lkp pt127 172 = iP 173 fDup := rfl
theorem k127_173 : lkp pt127 173 = iP 174 (fK (.inl 3)) := rfl
theorem k127_174 : lkp pt127 174 = iP 175 (fK (.inl 0)) := rfl
theorem k127_175 : lkp pt127 175 = iW 176 wAI := rfl
theorem k127_176 : lkp pt127 176 = iP 177 fDup := rfl
theorem k127_177 : lkp pt127 177 = iP 178 (fK (.inl 4)) := rfl
theorem k127_178 : lkp pt127 178 = iP 179 (fK (.inl 0)) := rfl
theorem k127_179 : lkp pt127 179 = iW 180 wAI := rfl
theorem k127_180 : lkp pt127 180 = iP 181 fDup := rfl
theorem k127_181 : lkp pt127 181 = iP 182 (fK (.inl 5)) := rfl
theorem k127_182 : lkp pt127 182 = iP 183 (fK (.inl 0)) := rfl
theorem k127_183 : lkp pt127 183 = iW 184 wAI := rfl
theorem k127_184 : lkp pt127 184 = iP 185 fDup := rfl
theorem k127_185 : lkp pt127 185 = iP 187 (fK (.inl 6)) := rfl
theorem k127_187 : lkp pt127 187 = iP 188 (fK (.inl 0)) := rfl
theorem k127_188 : lkp pt127 188 = iW 189 wAI := rfl
theorem k127_189 : lkp pt127 189 = iP 190 fDup := rfl
theorem k127_190 : lkp pt127 190 = iP 192 (fK (.inl 7)) := rfl
theorem k127_192 : lkp pt127 192 = iP 194 (fK (.inl 30)) := rfl
theorem k127_194 : lkp pt127 194 = iW 195 wAI := rfl
theorem k127_195 : lkp pt127 195 = iP 196 fDup := rfl
theorem k127_196 : lkp pt127 196 = iP 198 (fK (.inl 8)) := rfl
theorem k127_198 : lkp pt127 198 = iP 200 (fK (.inl 30)) := rfl
set_option maxRecDepth 100000 in
theorem k127_200 : lkp pt127 200 = iW 201 wAI := rfl
set_option maxRecDepth 100000 in
theorem k127_201 : lkp pt127 201 = iP 202 fDup := rfl
set_option maxRecDepth 100000 in
theorem k127_202 : lkp pt127 202 = iP 204 (fK (.inl 9)) := rfl
set_option maxRecDepth 100000 in
theorem k127_204 : lkp pt127 204 = iP 205 (fK (.inl 0)) := rfl
set_option maxRecDepth 100000 in
theorem k127_205 : lkp pt127 205 = iW 206 wAI := rfl
set_option maxRecDepth 100000 in
theorem k127_206 : lkp pt127 206 = iP 207 fDup := rfl
set_option maxRecDepth 100000 in
theorem k127_207 : lkp pt127 207 = iP 209 (fK (.inl 10)) := rfl
set_option maxRecDepth 100000 in
theorem k127_209 : lkp pt127 209 = iP 210 (fK (.inl 0)) := rfl
set_option maxRecDepth 100000 in
theorem k127_210 : lkp pt127 210 = iW 211 wAI := rfl
set_option maxRecDepth 100000 in
theorem k127_211 : lkp pt127 211 = iP 212 fDup := rfl
set_option maxRecDepth 100000 in
theorem k127_212 : lkp pt127 212 = iP 214 (fK (.inl 11)) := rfl
set_option maxRecDepth 100000 in
theorem k127_214 : lkp pt127 214 = iP 215 (fK (.inl 0)) := rfl
set_option maxRecDepth 100000 in
theorem k127_215 : lkp pt127 215 = iW 216 wAI := rfl
set_option maxRecDepth 100000 in
theorem k127_216 : lkp pt127 216 = iP 217 fDup := rfl
set_option maxRecDepth 100000 in
theorem k127_217 : lkp pt127 217 = iP 219 (fK (.inl 12)) := rfl
set_option maxRecDepth 100000 in
theorem k127_219 : lkp pt127 219 = iP 220 (fK (.inl 0)) := rfl
set_option maxRecDepth 100000 in
theorem k127_220 : lkp pt127 220 = iW 221 wAI := rfl
set_option maxRecDepth 100000 in
theorem k127_221 : lkp pt127 221 = iP 222 fDup := rfl
set_option maxRecDepth 100000 in
theorem k127_222 : lkp pt127 222 = iP 224 (fK (.inl 13)) := rfl
set_option maxRecDepth 100000 in
theorem k127_224 : lkp pt127 224 = iP 226 (fK (.inl 10)) := rfl
set_option maxRecDepth 100000 in
theorem k127_226 : lkp pt127 226 = iW 227 wAI := rfl
set_option maxRecDepth 100000 in
theorem k127_227 : lkp pt127 227 = iP 228 fDup := rfl
set_option maxRecDepth 100000 in
theorem k127_228 : lkp pt127 228 = iP 230 (fK (.inl 14)) := rfl
set_option maxRecDepth 100000 in
theorem k127_230 : lkp pt127 230 = iP 232 (fK (.inl 30)) := rfl
set_option maxRecDepth 100000 in
theorem k127_232 : lkp pt127 232 = iW 233 wAI := rfl
set_option maxRecDepth 100000 in
theorem k127_233 : lkp pt127 233 = iP 234 fDup := rfl
set_option maxRecDepth 100000 in
theorem k127_234 : lkp pt127 234 = iP 236 (fK (.inl 15)) := rfl
set_option maxRecDepth 100000 in
theorem k127_236 : lkp pt127 236 = iP 238 (fK (.inl 20)) := rfl
set_option maxRecDepth 100000 in
theorem k127_238 : lkp pt127 238 = iW 239 wAI := rfl
set_option maxRecDepth 100000 in
theorem k127_239 : lkp pt127 239 = iP 240 fDup := rfl
set_option maxRecDepth 100000 in
theorem k127_240 : lkp pt127 240 = iP 242 (fK (.inl 16)) := rfl
set_option maxRecDepth 100000 in
theorem k127_242 : lkp pt127 242 = iP 243 (fK (.inl 0)) := rfl
set_option maxRecDepth 100000 in
theorem k127_243 : lkp pt127 243 = iW 244 wAI := rfl
set_option maxRecDepth 100000 in
theorem k127_244 : lkp pt127 244 = iP 245 fDup := rfl
set_option maxRecDepth 100000 in
theorem k127_245 : lkp pt127 245 = iP 247 (fK (.inl 17)) := rfl
set_option maxRecDepth 100000 in
theorem k127_247 : lkp pt127 247 = iP 248 (fK (.inl 0)) := rfl
set_option maxRecDepth 100000 in
theorem k127_248 : lkp pt127 248 = iW 249 wAI := rfl
set_option maxRecDepth 100000 in
theorem k127_249 : lkp pt127 249 = iP 250 fDup := rfl
set_option maxRecDepth 100000 in
theorem k127_250 : lkp pt127 250 = iP 252 (fK (.inl 18)) := rfl
set_option maxRecDepth 100000 in
theorem k127_252 : lkp pt127 252 = iP 253 (fK (.inl 0)) := rfl
set_option maxRecDepth 100000 in
theorem k127_253 : lkp pt127 253 = iW 254 wAI := rfl
set_option maxRecDepth 100000 in
theorem k127_254 : lkp pt127 254 = iP 255 fDup := rfl
set_option maxRecDepth 100000 in
theorem k127_255 : lkp pt127 255 = iP 257 (fK (.inl 19)) := rfl
set_option maxRecDepth 100000 in
theorem k127_257 : lkp pt127 257 = iP 258 (fK (.inl 0)) := rfl
set_option maxRecDepth 100000 in
theorem k127_258 : lkp pt127 258 = iW 259 wAI := rfl
set_option maxRecDepth 100000 in
theorem k127_259 : lkp pt127 259 = iP 260 fDup := rfl
set_option maxRecDepth 100000 in
theorem k127_260 : lkp pt127 260 = iP 262 (fK (.inl 20)) := rfl
set_option maxRecDepth 100000 in
theorem k127_262 : lkp pt127 262 = iP 264 (fK (.inl 15)) := rfl
set_option maxRecDepth 100000 in
theorem k127_264 : lkp pt127 264 = iW 265 wAI := rfl
set_option maxRecDepth 100000 in
theorem k127_265 : lkp pt127 265 = iP 266 fDup := rfl
set_option maxRecDepth 100000 in
theorem k127_266 : lkp pt127 266 = iP 268 (fK (.inl 21)) := rfl
set_option maxRecDepth 100000 in
theorem k127_268 : lkp pt127 268 = iP 270 (fK (.inl 30)) := rfl
set_option maxRecDepth 100000 in
theorem k127_270 : lkp pt127 270 = iW 271 wAI := rfl
set_option maxRecDepth 100000 in
theorem k127_271 : lkp pt127 271 = iP 272 fDup := rfl
set_option maxRecDepth 100000 in
theorem k127_272 : lkp pt127 272 = iP 274 (fK (.inl 22)) := rfl
set_option maxRecDepth 100000 in
theorem k127_274 : lkp pt127 274 = iP 276 (fK (.inl 15)) := rfl
set_option maxRecDepth 100000 in
theorem k127_276 : lkp pt127 276 = iW 277 wAI := rfl
set_option maxRecDepth 100000 in
theorem k127_277 : lkp pt127 277 = iP 278 fDup := rfl
set_option maxRecDepth 100000 in
theorem k127_278 : lkp pt127 278 = iP 280 (fK (.inl 23)) := rfl
set_option maxRecDepth 100000 in
theorem k127_280 : lkp pt127 280 = iP 281 (fK (.inl 0)) := rfl
set_option maxRecDepth 100000 in
theorem k127_281 : lkp pt127 281 = iW 282 wAI := rfl
set_option maxRecDepth 100000 in
theorem k127_282 : lkp pt127 282 = iP 283 fDup := rfl
set_option maxRecDepth 100000 in
theorem k127_283 : lkp pt127 283 = iP 285 (fK (.inl 24)) := rfl
set_option maxRecDepth 100000 in
theorem k127_285 : lkp pt127 285 = iP 286 (fK (.inl 0)) := rfl
set_option maxRecDepth 100000 in
theorem k127_286 : lkp pt127 286 = iW 287 wAI := rfl
set_option maxRecDepth 100000 in
theorem k127_287 : lkp pt127 287 = iP 288 fDup := rfl
set_option maxRecDepth 100000 in
theorem k127_288 : lkp pt127 288 = iP 290 (fK (.inl 25)) := rfl
set_option maxRecDepth 100000 in
theorem k127_290 : lkp pt127 290 = iP 292 (fK (.inl (-2))) := rfl
set_option maxRecDepth 100000 in
theorem k127_292 : lkp pt127 292 = iW 293 wAI := rfl
set_option maxRecDepth 100000 in
theorem k127_293 : lkp pt127 293 = iP 294 fDup := rfl
set_option maxRecDepth 100000 in
theorem k127_294 : lkp pt127 294 = iP 296 (fK (.inl 26)) := rfl
set_option maxRecDepth 100000 in
theorem k127_296 : lkp pt127 296 = iP 297 (fK (.inl 0)) := rfl
set_option maxRecDepth 100000 in
theorem k127_297 : lkp pt127 297 = iW 298 wAI := rfl
set_option maxRecDepth 100000 in
theorem k127_298 : lkp pt127 298 = iP 299 fDup := rfl
set_option maxRecDepth 100000 in
theorem k127_299 : lkp pt127 299 = iP 301 (fK (.inl 27)) := rfl
set_option maxRecDepth 100000 in
theorem k127_301 : lkp pt127 301 = iP 303 (fK (.inl 20)) := rfl
set_option maxRecDepth 100000 in
theorem k127_303 : lkp pt127 303 = iW 304 wAI := rfl
set_option maxRecDepth 100000 in
theorem k127_304 : lkp pt127 304 = iP 305 fDup := rfl
set_option maxRecDepth 100000 in
theorem k127_305 : lkp pt127 305 = iP 307 (fK (.inl 28)) := rfl
set_option maxRecDepth 100000 in
theorem k127_307 : lkp pt127 307 = iP 309 (fK (.inl 30)) := rfl
set_option maxRecDepth 100000 in
theorem k127_309 : lkp pt127 309 = iW 310 wAI := rfl
set_option maxRecDepth 100000 in
theorem k127_310 : lkp pt127 310 = iP 311 fDup := rfl
set_option maxRecDepth 100000 in
theorem k127_311 : lkp pt127 311 = iP 313 (fK (.inl 29)) := rfl
set_option maxRecDepth 100000 in
theorem k127_313 : lkp pt127 313 = iP 315 (fK (.inl 12)) := rfl
set_option maxRecDepth 100000 in
theorem k127_315 : lkp pt127 315 = iW 316 wAI := rfl
set_option maxRecDepth 100000 in
theorem k127_316 : lkp pt127 316 = iW 319 (ptR 73) := rfl
set_option maxRecDepth 100000 in
theorem k127_319 : lkp pt127 319 = iP 320 (fAld 0) := rfl
set_option maxRecDepth 100000 in
theorem k127_320 : lkp pt127 320 = iP 322 (fK (.inl 24)) := rfl
set_option maxRecDepth 100000 in
theorem k127_322 : lkp pt127 322 = iW 324 (wNa 20) := rfl
set_option maxRecDepth 100000 in
theorem k127_324 : lkp pt127 324 = iW 327 (ptR 74) := rfl
set_option maxRecDepth 100000 in
theorem k127_327 : lkp pt127 327 = iP 328 (fAld 0) := rfl
set_option maxRecDepth 100000 in
theorem k127_328 : lkp pt127 328 = iP 330 (fK (.inl 24)) := rfl
set_option maxRecDepth 100000 in
theorem k127_330 : lkp pt127 330 = iW 332 (wNa 20) := rfl
set_option maxRecDepth 100000 in
theorem k127_332 : lkp pt127 332 = iW 335 (ptR 75) := rfl
set_option maxRecDepth 100000 in
theorem k127_335 : lkp pt127 335 = iP 336 (fAld 0) := rfl
set_option maxRecDepth 100000 in
theorem k127_336 : lkp pt127 336 = iP 337 (fK (.inl 3)) := rfl
set_option maxRecDepth 100000 in
theorem k127_337 : lkp pt127 337 = iW 339 (wNa 20) := rfl
set_option maxRecDepth 100000 in
theorem k127_339 : lkp pt127 339 = iW 342 (ptR 82) := rfl
set_option maxRecDepth 100000 in
theorem k127_342 : lkp pt127 342 = iP 343 (fAld 0) := rfl
set_option maxRecDepth 100000 in
theorem k127_343 : lkp pt127 343 = iP 346 (fK (.inl 220)) := rfl
set_option maxRecDepth 100000 in
theorem k127_346 : lkp pt127 346 = iW 348 (wNa 20) := rfl
set_option maxRecDepth 100000 in
theorem k127_348 : lkp pt127 348 = iW 351 (ptR 84) := rfl
set_option maxRecDepth 100000 in
theorem k127_351 : lkp pt127 351 = iP 352 (fAld 0) := rfl
set_option maxRecDepth 100000 in
theorem k127_352 : lkp pt127 352 = iP 355 (fK (.inl 220)) := rfl
set_option maxRecDepth 100000 in
theorem k127_355 : lkp pt127 355 = iW 357 (wNa 20) := rfl
set_option maxRecDepth 100000 in
theorem k127_357 : lkp pt127 357 = iW 360 (ptR 85) := rfl
set_option maxRecDepth 100000 in
theorem k127_360 : lkp pt127 360 = iP 361 (fAld 0) := rfl
set_option maxRecDepth 100000 in
theorem k127_361 : lkp pt127 361 = iP 364 (fK (.inl 220)) := rfl
set_option maxRecDepth 100000 in
theorem k127_364 : lkp pt127 364 = iW 366 (wNa 20) := rfl
set_option maxRecDepth 100000 in
theorem k127_366 : lkp pt127 366 = iW 369 (ptR 86) := rfl
set_option maxRecDepth 100000 in
theorem k127_369 : lkp pt127 369 = iP 370 (fAld 0) := rfl
set_option maxRecDepth 100000 in
theorem k127_370 : lkp pt127 370 = iP 373 (fK (.inl 220)) := rfl
set_option maxRecDepth 100000 in
theorem k127_373 : lkp pt127 373 = iW 375 (wNa 21) := rfl
set_option maxRecDepth 100000 in
theorem k127_375 : lkp pt127 375 = iW 378 (ptR 87) := rfl
set_option maxRecDepth 100000 in
theorem k127_378 : lkp pt127 378 = iP 379 (fAld 0) := rfl
set_option maxRecDepth 100000 in
theorem k127_379 : lkp pt127 379 = iP 382 (fK (.inl 220)) := rfl
set_option maxRecDepth 100000 in
theorem k127_382 : lkp pt127 382 = iW 384 (wNa 21) := rfl
set_option maxRecDepth 100000 in
theorem k127_384 : lkp pt127 384 = iW 387 (ptR 88) := rfl
set_option maxRecDepth 100000 in
theorem k127_387 : lkp pt127 387 = iP 388 (fAld 0) := rfl
set_option maxRecDepth 100000 in
theorem k127_388 : lkp pt127 388 = iP 391 (fK (.inl 1540)) := rfl
set_option maxRecDepth 100000 in
theorem k127_391 : lkp pt127 391 = iW 393 (wNa 20) := rfl
set_option maxRecDepth 100000 in
theorem k127_393 : lkp pt127 393 = iW 396 (ptR 89) := rfl
set_option maxRecDepth 100000 in
theorem k127_396 : lkp pt127 396 = iP 397 (fK (.inl 0)) := rfl
set_option maxRecDepth 100000 in
theorem k127_397 : lkp pt127 397 = iP 398 (fIst 1) := rfl
set_option maxRecDepth 100000 in
theorem k127_398 : lkp pt127 398 = iP 399 (fK (.inl 0)) := rfl
set_option maxRecDepth 100000 in
theorem k127_399 : lkp pt127 399 = iP 400 (fIst 2) := rfl
set_option maxRecDepth 100000 in
theorem k127_400 : lkp pt127 400 = iP 401 (fIld 2) := rfl
set_option maxRecDepth 100000 in
theorem k127_401 : lkp pt127 401 = iP 404 (fK (.inl 7776)) := rfl
set_option maxRecDepth 100000 in
theorem k127_404 : lkp pt127 404 = iB 407 508 (b2 (fun x y => decide (y ≤ x))) := rfl
set_option maxRecDepth 100000 in
theorem k127_407 : lkp pt127 407 = iP 408 (fIld 2) := rfl
set_option maxRecDepth 100000 in
theorem k127_408 : lkp pt127 408 = iP 409 (fIst 3) := rfl
set_option maxRecDepth 100000 in
theorem k127_409 : lkp pt127 409 = iP 410 (fK (.inl 0)) := rfl
set_option maxRecDepth 100000 in
theorem k127_410 : lkp pt127 410 = iP 412 (fIst 4) := rfl
set_option maxRecDepth 100000 in
theorem k127_412 : lkp pt127 412 = iP 413 (fK (.inl 0)) := rfl
set_option maxRecDepth 100000 in
theorem k127_413 : lkp pt127 413 = iP 415 (fIst 5) := rfl
set_option maxRecDepth 100000 in
theorem k127_415 : lkp pt127 415 = iP 417 (fIld 5) := rfl
set_option maxRecDepth 100000 in
theorem k127_417 : lkp pt127 417 = iP 418 (fK (.inl 5)) := rfl
set_option maxRecDepth 100000 in
theorem k127_418 : lkp pt127 418 = iB 421 441 (b2 (fun x y => decide (y ≤ x))) := rfl
set_option maxRecDepth 100000 in
theorem k127_421 : lkp pt127 421 = iP 423 (fIld 4) := rfl
set_option maxRecDepth 100000 in
theorem k127_423 : lkp pt127 423 = iP 424 (fIld 3) := rfl
set_option maxRecDepth 100000 in
theorem k127_424 : lkp pt127 424 = iP 426 (fK (.inl 6)) := rfl
set_option maxRecDepth 100000 in
theorem k127_426 : lkp pt127 426 = iRI 427 (q2I (fun x y => x - x / y * y)) := rfl
set_option maxRecDepth 100000 in
theorem k127_427 : lkp pt127 427 = iP 428 (f2I (fun x y => x + y)) := rfl
set_option maxRecDepth 100000 in
theorem k127_428 : lkp pt127 428 = iP 430 (fIst 4) := rfl
set_option maxRecDepth 100000 in
theorem k127_430 : lkp pt127 430 = iP 431 (fIld 3) := rfl
set_option maxRecDepth 100000 in
theorem k127_431 : lkp pt127 431 = iP 433 (fK (.inl 6)) := rfl
set_option maxRecDepth 100000 in
theorem k127_433 : lkp pt127 433 = iRI 434 (q2I (fun x y => x / y)) := rfl
set_option maxRecDepth 100000 in
theorem k127_434 : lkp pt127 434 = iP 435 (fIst 3) := rfl
set_option maxRecDepth 100000 in
theorem k127_435 : lkp pt127 435 = iP 438 (fInc 5 1) := rfl
set_option maxRecDepth 100000 in
theorem k127_438 : lkp pt127 438 = iP 415 fGo := rfl
set_option maxRecDepth 100000 in
theorem k127_441 : lkp pt127 441 = iP 442 (fAld 0) := rfl
set_option maxRecDepth 100000 in
theorem k127_442 : lkp pt127 442 = iRR 445 (gtR 62) := rfl
set_option maxRecDepth 100000 in
theorem k127_445 : lkp pt127 445 = iP 446 (fIld 2) := rfl
set_option maxRecDepth 100000 in
theorem k127_446 : lkp pt127 446 = iP 447 (fK (.inl (-1))) := rfl
set_option maxRecDepth 100000 in
theorem k127_447 : lkp pt127 447 = iW 448 wAI := rfl
set_option maxRecDepth 100000 in
theorem k127_448 : lkp pt127 448 = iP 450 (fIld 4) := rfl
set_option maxRecDepth 100000 in
theorem k127_450 : lkp pt127 450 = iP 452 (fK (.inl 6)) := rfl
set_option maxRecDepth 100000 in
theorem k127_452 : lkp pt127 452 = iB 455 502 (b2 (fun x y => decide (y ≤ x))) := rfl
set_option maxRecDepth 100000 in
theorem k127_455 : lkp pt127 455 = iP 456 (fAld 0) := rfl
set_option maxRecDepth 100000 in
theorem k127_456 : lkp pt127 456 = iRR 459 (gtR 62) := rfl
set_option maxRecDepth 100000 in
theorem k127_459 : lkp pt127 459 = iP 460 (fIld 2) := rfl
set_option maxRecDepth 100000 in
theorem k127_460 : lkp pt127 460 = iP 461 (fIld 1) := rfl
set_option maxRecDepth 100000 in
theorem k127_461 : lkp pt127 461 = iW 462 wAI := rfl
set_option maxRecDepth 100000 in
theorem k127_462 : lkp pt127 462 = iP 463 (fIld 2) := rfl
set_option maxRecDepth 100000 in
theorem k127_463 : lkp pt127 463 = iP 464 (fIst 3) := rfl
set_option maxRecDepth 100000 in
theorem k127_464 : lkp pt127 464 = iP 465 (fK (.inl 0)) := rfl
set_option maxRecDepth 100000 in
theorem k127_465 : lkp pt127 465 = iP 467 (fIst 5) := rfl
set_option maxRecDepth 100000 in
theorem k127_467 : lkp pt127 467 = iP 469 (fIld 5) := rfl
set_option maxRecDepth 100000 in
theorem k127_469 : lkp pt127 469 = iP 470 (fK (.inl 5)) := rfl
set_option maxRecDepth 100000 in
theorem k127_470 : lkp pt127 470 = iB 473 499 (b2 (fun x y => decide (y ≤ x))) := rfl
set_option maxRecDepth 100000 in
theorem k127_473 : lkp pt127 473 = iP 474 (fAld 0) := rfl
set_option maxRecDepth 100000 in
theorem k127_474 : lkp pt127 474 = iRR 477 (gtR 61) := rfl
set_option maxRecDepth 100000 in
theorem k127_477 : lkp pt127 477 = iP 478 (fK (.inl 5)) := rfl
set_option maxRecDepth 100000 in
theorem k127_478 : lkp pt127 478 = iP 479 (fIld 1) := rfl
set_option maxRecDepth 100000 in
theorem k127_479 : lkp pt127 479 = iP 480 (f2I (fun x y => x * y)) := rfl
set_option maxRecDepth 100000 in
theorem k127_480 : lkp pt127 480 = iP 482 (fIld 5) := rfl
set_option maxRecDepth 100000 in
theorem k127_482 : lkp pt127 482 = iP 483 (f2I (fun x y => x + y)) := rfl
set_option maxRecDepth 100000 in
theorem k127_483 : lkp pt127 483 = iP 484 (fIld 3) := rfl
set_option maxRecDepth 100000 in
theorem k127_484 : lkp pt127 484 = iP 486 (fK (.inl 6)) := rfl
set_option maxRecDepth 100000 in
theorem k127_486 : lkp pt127 486 = iRI 487 (q2I (fun x y => x - x / y * y)) := rfl
set_option maxRecDepth 100000 in
theorem k127_487 : lkp pt127 487 = iW 488 wAI := rfl
set_option maxRecDepth 100000 in
theorem k127_488 : lkp pt127 488 = iP 489 (fIld 3) := rfl
set_option maxRecDepth 100000 in
theorem k127_489 : lkp pt127 489 = iP 491 (fK (.inl 6)) := rfl
set_option maxRecDepth 100000 in
theorem k127_491 : lkp pt127 491 = iRI 492 (q2I (fun x y => x / y)) := rfl
set_option maxRecDepth 100000 in
theorem k127_492 : lkp pt127 492 = iP 493 (fIst 3) := rfl
set_option maxRecDepth 100000 in
theorem k127_493 : lkp pt127 493 = iP 496 (fInc 5 1) := rfl
set_option maxRecDepth 100000 in
theorem k127_496 : lkp pt127 496 = iP 467 fGo := rfl
set_option maxRecDepth 100000 in
theorem k127_499 : lkp pt127 499 = iP 502 (fInc 1 1) := rfl
set_option maxRecDepth 100000 in
theorem k127_502 : lkp pt127 502 = iP 505 (fInc 2 1) := rfl
set_option maxRecDepth 100000 in
theorem k127_505 : lkp pt127 505 = iP 400 fGo := rfl
set_option maxRecDepth 100000 in
theorem k127_508 : lkp pt127 508 = iRet rV := rfl
theorem b127_0 {G : AG} (hG : FIX G) (x0 : Nat) (H : Hp) : G 127 0 [some (.inr (.inr x0)), none, none, none, none, none] [] H = (((bif Nat.beq x0 0 || false then none else some H)).bind fun H1 => (hNa H1 20 8).bind fun H2 => (hpR H2 x0 51 H1.2.1.1).bind fun H3 => (hNa H3 20 192).bind fun H4 => (hpR H4 x0 52 H3.2.1.1).bind fun H5 => (hNa H5 20 192).bind fun H6 => (hpR H6 x0 53 H5.2.1.1).bind fun H7 => (hNa H7 20 192).bind fun H8 => (hpR H8 x0 54 H7.2.1.1).bind fun H9 => (hNa H9 20 2304).bind fun H10 => (hpR H10 x0 55 H9.2.1.1).bind fun H11 => (hNa H11 20 12).bind fun H12 => (hpR H12 x0 56 H11.2.1.1).bind fun H13 => (hpI H13 x0 57 1).bind fun H14 => (hNa H14 20 16).bind fun H15 => (hpR H15 x0 58 H14.2.1.1).bind fun H16 => (hNa H16 20 1260).bind fun H17 => (hpR H17 x0 61 H16.2.1.1).bind fun H18 => (hNa H18 20 7776).bind fun H19 => (hpR H19 x0 62 H18.2.1.1).bind fun H20 => (hNa H20 20 24).bind fun H21 => (hpR H21 x0 64 H20.2.1.1).bind fun H22 => (hNa H22 20 24).bind fun H23 => (hpR H23 x0 65 H22.2.1.1).bind fun H24 => (hNa H24 21 17640).bind fun H25 => (hpR H25 x0 67 H24.2.1.1).bind fun H26 => (hNa H26 22 8).bind fun H27 => (hpR H27 x0 68 H26.2.1.1).bind fun H28 => (hNa H28 22 8).bind fun H29 => (hpR H29 x0 69 H28.2.1.1).bind fun H30 => (hNa H30 22 16).bind fun H31 => (hpR H31 x0 70 H30.2.1.1).bind fun H32 => (hNa H32 21 252).bind fun H33 => (hpR H33 x0 71 H32.2.1.1).bind fun H34 => (hNa H34 21 252).bind fun H35 => (hpR H35 x0 72 H34.2.1.1).bind fun H36 => (hNa H36 20 30).bind fun H37 => (hSI H37 H36.2.1.1 0 0).bind fun H38 => (hSI H38 H36.2.1.1 1 60).bind fun H39 => (hSI H39 H36.2.1.1 2 0).bind fun H40 => (hSI H40 H36.2.1.1 3 0).bind fun H41 => (hSI H41 H36.2.1.1 4 0).bind fun H42 => (hSI H42 H36.2.1.1 5 0).bind fun H43 => (hSI H43 H36.2.1.1 6 0).bind fun H44 => (hSI H44 H36.2.1.1 7 30).bind fun H45 => (hSI H45 H36.2.1.1 8 30).bind fun H46 => (hSI H46 H36.2.1.1 9 0).bind fun H47 => (hSI H47 H36.2.1.1 10 0).bind fun H48 => (hSI H48 H36.2.1.1 11 0).bind fun H49 => (hSI H49 H36.2.1.1 12 0).bind fun H50 => (hSI H50 H36.2.1.1 13 10).bind fun H51 => (hSI H51 H36.2.1.1 14 30).bind fun H52 => (hSI H52 H36.2.1.1 15 20).bind fun H53 => (hSI H53 H36.2.1.1 16 0).bind fun H54 => (hSI H54 H36.2.1.1 17 0).bind fun H55 => (hSI H55 H36.2.1.1 18 0).bind fun H56 => (hSI H56 H36.2.1.1 19 0).bind fun H57 => (hSI H57 H36.2.1.1 20 15).bind fun H58 => (hSI H58 H36.2.1.1 21 30).bind fun H59 => (hSI H59 H36.2.1.1 22 15).bind fun H60 => (hSI H60 H36.2.1.1 23 0).bind fun H61 => (hSI H61 H36.2.1.1 24 0).bind fun H62 => (hSI H62 H36.2.1.1 25 ((-2))).bind fun H63 => (hSI H63 H36.2.1.1 26 0).bind fun H64 => (hSI H64 H36.2.1.1 27 20).bind fun H65 => (hSI H65 H36.2.1.1 28 30).bind fun H66 => (hSI H66 H36.2.1.1 29 12).bind fun H67 => (hpR H67 x0 73 H36.2.1.1).bind fun H68 => (hNa H68 20 24).bind fun H69 => (hpR H69 x0 74 H68.2.1.1).bind fun H70 => (hNa H70 20 24).bind fun H71 => (hpR H71 x0 75 H70.2.1.1).bind fun H72 => (hNa H72 20 3).bind fun H73 => (hpR H73 x0 82 H72.2.1.1).bind fun H74 => (hNa H74 20 220).bind fun H75 => (hpR H75 x0 84 H74.2.1.1).bind fun H76 => (hNa H76 20 220).bind fun H77 => (hpR H77 x0 85 H76.2.1.1).bind fun H78 => (hNa H78 20 220).bind fun H79 => (hpR H79 x0 86 H78.2.1.1).bind fun H80 => (hNa H80 21 220).bind fun H81 => (hpR H81 x0 87 H80.2.1.1).bind fun H82 => (hNa H82 21 220).bind fun H83 => (hpR H83 x0 88 H82.2.1.1).bind fun H84 => (hNa H84 20 1540).bind fun H85 => (hpR H85 x0 89 H84.2.1.1).bind fun H86 => G 127 400 [some (.inr (.inr x0)), some (.inl 0), some (.inl 0), none, none, none] [] H86) := by
  refine Eq.trans (e1 hG PT_127 k127_0 _ _ _) ?_
  show G 127 1 [some (.inr (.inr x0)), none, none, none, none, none] [.inr (.inr x0)] H = _
  refine Eq.trans (e1 hG PT_127 k127_1 _ _ _) ?_
  refine bdc fun H1 => ?_
  show G 127 4 [some (.inr (.inr x0)), none, none, none, none, none] [] H1 = _
  refine Eq.trans (e1 hG PT_127 k127_4 _ _ _) ?_
  show G 127 5 [some (.inr (.inr x0)), none, none, none, none, none] [.inr (.inr x0)] H1 = _
  refine Eq.trans (e1 hG PT_127 k127_5 _ _ _) ?_
  show G 127 7 [some (.inr (.inr x0)), none, none, none, none, none] [.inl 8, .inr (.inr x0)] H1 = _
  refine Eq.trans (e1 hG PT_127 k127_7 _ _ _) ?_
  refine bdc fun H2 => ?_
  show G 127 9 [some (.inr (.inr x0)), none, none, none, none, none] [.inr (.inr H1.2.1.1), .inr (.inr x0)] H2 = _
  refine Eq.trans (e1 hG PT_127 k127_9 _ _ _) ?_
  refine bdc fun H3 => ?_
  show G 127 12 [some (.inr (.inr x0)), none, none, none, none, none] [] H3 = _
  refine Eq.trans (e1 hG PT_127 k127_12 _ _ _) ?_
  show G 127 13 [some (.inr (.inr x0)), none, none, none, none, none] [.inr (.inr x0)] H3 = _
  refine Eq.trans (e1 hG PT_127 k127_13 _ _ _) ?_
  show G 127 16 [some (.inr (.inr x0)), none, none, none, none, none] [.inl 192, .inr (.inr x0)] H3 = _
  refine Eq.trans (e1 hG PT_127 k127_16 _ _ _) ?_
  refine bdc fun H4 => ?_
  show G 127 18 [some (.inr (.inr x0)), none, none, none, none, none] [.inr (.inr H3.2.1.1), .inr (.inr x0)] H4 = _
  refine Eq.trans (e1 hG PT_127 k127_18 _ _ _) ?_
  refine bdc fun H5 => ?_
  show G 127 21 [some (.inr (.inr x0)), none, none, none, none, none] [] H5 = _
  refine Eq.trans (e1 hG PT_127 k127_21 _ _ _) ?_
  show G 127 22 [some (.inr (.inr x0)), none, none, none, none, none] [.inr (.inr x0)] H5 = _
  refine Eq.trans (e1 hG PT_127 k127_22 _ _ _) ?_
  show G 127 25 [some (.inr (.inr x0)), none, none, none, none, none] [.inl 192, .inr (.inr x0)] H5 = _
  refine Eq.trans (e1 hG PT_127 k127_25 _ _ _) ?_
  refine bdc fun H6 => ?_
  show G 127 27 [some (.inr (.inr x0)), none, none, none, none, none] [.inr (.inr H5.2.1.1), .inr (.inr x0)] H6 = _
  refine Eq.trans (e1 hG PT_127 k127_27 _ _ _) ?_
  refine bdc fun H7 => ?_
  show G 127 30 [some (.inr (.inr x0)), none, none, none, none, none] [] H7 = _
  refine Eq.trans (e1 hG PT_127 k127_30 _ _ _) ?_
  show G 127 31 [some (.inr (.inr x0)), none, none, none, none, none] [.inr (.inr x0)] H7 = _
  refine Eq.trans (e1 hG PT_127 k127_31 _ _ _) ?_
  show G 127 34 [some (.inr (.inr x0)), none, none, none, none, none] [.inl 192, .inr (.inr x0)] H7 = _
  refine Eq.trans (e1 hG PT_127 k127_34 _ _ _) ?_
  refine bdc fun H8 => ?_
  show G 127 36 [some (.inr (.inr x0)), none, none, none, none, none] [.inr (.inr H7.2.1.1), .inr (.inr x0)] H8 = _
  refine Eq.trans (e1 hG PT_127 k127_36 _ _ _) ?_
  refine bdc fun H9 => ?_
  show G 127 39 [some (.inr (.inr x0)), none, none, none, none, none] [] H9 = _
  refine Eq.trans (e1 hG PT_127 k127_39 _ _ _) ?_
  show G 127 40 [some (.inr (.inr x0)), none, none, none, none, none] [.inr (.inr x0)] H9 = _
  refine Eq.trans (e1 hG PT_127 k127_40 _ _ _) ?_
  show G 127 43 [some (.inr (.inr x0)), none, none, none, none, none] [.inl 2304, .inr (.inr x0)] H9 = _
  refine Eq.trans (e1 hG PT_127 k127_43 _ _ _) ?_
  refine bdc fun H10 => ?_
  show G 127 45 [some (.inr (.inr x0)), none, none, none, none, none] [.inr (.inr H9.2.1.1), .inr (.inr x0)] H10 = _
  refine Eq.trans (e1 hG PT_127 k127_45 _ _ _) ?_
  refine bdc fun H11 => ?_
  show G 127 48 [some (.inr (.inr x0)), none, none, none, none, none] [] H11 = _
  refine Eq.trans (e1 hG PT_127 k127_48 _ _ _) ?_
  show G 127 49 [some (.inr (.inr x0)), none, none, none, none, none] [.inr (.inr x0)] H11 = _
  refine Eq.trans (e1 hG PT_127 k127_49 _ _ _) ?_
  show G 127 51 [some (.inr (.inr x0)), none, none, none, none, none] [.inl 12, .inr (.inr x0)] H11 = _
  refine Eq.trans (e1 hG PT_127 k127_51 _ _ _) ?_
  refine bdc fun H12 => ?_
  show G 127 53 [some (.inr (.inr x0)), none, none, none, none, none] [.inr (.inr H11.2.1.1), .inr (.inr x0)] H12 = _
  refine Eq.trans (e1 hG PT_127 k127_53 _ _ _) ?_
  refine bdc fun H13 => ?_
  show G 127 56 [some (.inr (.inr x0)), none, none, none, none, none] [] H13 = _
  refine Eq.trans (e1 hG PT_127 k127_56 _ _ _) ?_
  show G 127 57 [some (.inr (.inr x0)), none, none, none, none, none] [.inr (.inr x0)] H13 = _
  refine Eq.trans (e1 hG PT_127 k127_57 _ _ _) ?_
  show G 127 58 [some (.inr (.inr x0)), none, none, none, none, none] [.inl 1, .inr (.inr x0)] H13 = _
  refine Eq.trans (e1 hG PT_127 k127_58 _ _ _) ?_
  refine bdc fun H14 => ?_
  show G 127 61 [some (.inr (.inr x0)), none, none, none, none, none] [] H14 = _
  refine Eq.trans (e1 hG PT_127 k127_61 _ _ _) ?_
  show G 127 62 [some (.inr (.inr x0)), none, none, none, none, none] [.inr (.inr x0)] H14 = _
  refine Eq.trans (e1 hG PT_127 k127_62 _ _ _) ?_
  show G 127 64 [some (.inr (.inr x0)), none, none, none, none, none] [.inl 16, .inr (.inr x0)] H14 = _
  refine Eq.trans (e1 hG PT_127 k127_64 _ _ _) ?_
  refine bdc fun H15 => ?_
  show G 127 66 [some (.inr (.inr x0)), none, none, none, none, none] [.inr (.inr H14.2.1.1), .inr (.inr x0)] H15 = _
  refine Eq.trans (e1 hG PT_127 k127_66 _ _ _) ?_
  refine bdc fun H16 => ?_
  show G 127 69 [some (.inr (.inr x0)), none, none, none, none, none] [] H16 = _
  refine Eq.trans (e1 hG PT_127 k127_69 _ _ _) ?_
  show G 127 70 [some (.inr (.inr x0)), none, none, none, none, none] [.inr (.inr x0)] H16 = _
  refine Eq.trans (e1 hG PT_127 k127_70 _ _ _) ?_
  show G 127 73 [some (.inr (.inr x0)), none, none, none, none, none] [.inl 1260, .inr (.inr x0)] H16 = _
  refine Eq.trans (e1 hG PT_127 k127_73 _ _ _) ?_
  refine bdc fun H17 => ?_
  show G 127 75 [some (.inr (.inr x0)), none, none, none, none, none] [.inr (.inr H16.2.1.1), .inr (.inr x0)] H17 = _
  refine Eq.trans (e1 hG PT_127 k127_75 _ _ _) ?_
  refine bdc fun H18 => ?_
  show G 127 78 [some (.inr (.inr x0)), none, none, none, none, none] [] H18 = _
  refine Eq.trans (e1 hG PT_127 k127_78 _ _ _) ?_
  show G 127 79 [some (.inr (.inr x0)), none, none, none, none, none] [.inr (.inr x0)] H18 = _
  refine Eq.trans (e1 hG PT_127 k127_79 _ _ _) ?_
  show G 127 82 [some (.inr (.inr x0)), none, none, none, none, none] [.inl 7776, .inr (.inr x0)] H18 = _
  refine Eq.trans (e1 hG PT_127 k127_82 _ _ _) ?_
  refine bdc fun H19 => ?_
  show G 127 84 [some (.inr (.inr x0)), none, none, none, none, none] [.inr (.inr H18.2.1.1), .inr (.inr x0)] H19 = _
  refine Eq.trans (e1 hG PT_127 k127_84 _ _ _) ?_
  refine bdc fun H20 => ?_
  show G 127 87 [some (.inr (.inr x0)), none, none, none, none, none] [] H20 = _
  refine Eq.trans (e1 hG PT_127 k127_87 _ _ _) ?_
  show G 127 88 [some (.inr (.inr x0)), none, none, none, none, none] [.inr (.inr x0)] H20 = _
  refine Eq.trans (e1 hG PT_127 k127_88 _ _ _) ?_
  show G 127 90 [some (.inr (.inr x0)), none, none, none, none, none] [.inl 24, .inr (.inr x0)] H20 = _
  refine Eq.trans (e1 hG PT_127 k127_90 _ _ _) ?_
  refine bdc fun H21 => ?_
  show G 127 92 [some (.inr (.inr x0)), none, none, none, none, none] [.inr (.inr H20.2.1.1), .inr (.inr x0)] H21 = _
  refine Eq.trans (e1 hG PT_127 k127_92 _ _ _) ?_
  refine bdc fun H22 => ?_
  show G 127 95 [some (.inr (.inr x0)), none, none, none, none, none] [] H22 = _
  refine Eq.trans (e1 hG PT_127 k127_95 _ _ _) ?_
  show G 127 96 [some (.inr (.inr x0)), none, none, none, none, none] [.inr (.inr x0)] H22 = _
  refine Eq.trans (e1 hG PT_127 k127_96 _ _ _) ?_
  show G 127 98 [some (.inr (.inr x0)), none, none, none, none, none] [.inl 24, .inr (.inr x0)] H22 = _
  refine Eq.trans (e1 hG PT_127 k127_98 _ _ _) ?_
  refine bdc fun H23 => ?_
  show G 127 100 [some (.inr (.inr x0)), none, none, none, none, none] [.inr (.inr H22.2.1.1), .inr (.inr x0)] H23 = _
  refine Eq.trans (e1 hG PT_127 k127_100 _ _ _) ?_
  refine bdc fun H24 => ?_
  show G 127 103 [some (.inr (.inr x0)), none, none, none, none, none] [] H24 = _
  refine Eq.trans (e1 hG PT_127 k127_103 _ _ _) ?_
  show G 127 104 [some (.inr (.inr x0)), none, none, none, none, none] [.inr (.inr x0)] H24 = _
  refine Eq.trans (e1 hG PT_127 k127_104 _ _ _) ?_
  show G 127 107 [some (.inr (.inr x0)), none, none, none, none, none] [.inl 17640, .inr (.inr x0)] H24 = _
  refine Eq.trans (e1 hG PT_127 k127_107 _ _ _) ?_
  refine bdc fun H25 => ?_
  show G 127 109 [some (.inr (.inr x0)), none, none, none, none, none] [.inr (.inr H24.2.1.1), .inr (.inr x0)] H25 = _
  refine Eq.trans (e1 hG PT_127 k127_109 _ _ _) ?_
  refine bdc fun H26 => ?_
  show G 127 112 [some (.inr (.inr x0)), none, none, none, none, none] [] H26 = _
  refine Eq.trans (e1 hG PT_127 k127_112 _ _ _) ?_
  show G 127 113 [some (.inr (.inr x0)), none, none, none, none, none] [.inr (.inr x0)] H26 = _
  refine Eq.trans (e1 hG PT_127 k127_113 _ _ _) ?_
  show G 127 115 [some (.inr (.inr x0)), none, none, none, none, none] [.inl 8, .inr (.inr x0)] H26 = _
  refine Eq.trans (e1 hG PT_127 k127_115 _ _ _) ?_
  refine bdc fun H27 => ?_
  show G 127 117 [some (.inr (.inr x0)), none, none, none, none, none] [.inr (.inr H26.2.1.1), .inr (.inr x0)] H27 = _
  refine Eq.trans (e1 hG PT_127 k127_117 _ _ _) ?_
  refine bdc fun H28 => ?_
  show G 127 120 [some (.inr (.inr x0)), none, none, none, none, none] [] H28 = _
  refine Eq.trans (e1 hG PT_127 k127_120 _ _ _) ?_
  show G 127 121 [some (.inr (.inr x0)), none, none, none, none, none] [.inr (.inr x0)] H28 = _
  refine Eq.trans (e1 hG PT_127 k127_121 _ _ _) ?_
  show G 127 123 [some (.inr (.inr x0)), none, none, none, none, none] [.inl 8, .inr (.inr x0)] H28 = _
  refine Eq.trans (e1 hG PT_127 k127_123 _ _ _) ?_
  refine bdc fun H29 => ?_
  show G 127 125 [some (.inr (.inr x0)), none, none, none, none, none] [.inr (.inr H28.2.1.1), .inr (.inr x0)] H29 = _
  refine Eq.trans (e1 hG PT_127 k127_125 _ _ _) ?_
  refine bdc fun H30 => ?_
  show G 127 128 [some (.inr (.inr x0)), none, none, none, none, none] [] H30 = _
  refine Eq.trans (e1 hG PT_127 k127_128 _ _ _) ?_
  show G 127 129 [some (.inr (.inr x0)), none, none, none, none, none] [.inr (.inr x0)] H30 = _
  refine Eq.trans (e1 hG PT_127 k127_129 _ _ _) ?_
  show G 127 131 [some (.inr (.inr x0)), none, none, none, none, none] [.inl 16, .inr (.inr x0)] H30 = _
  refine Eq.trans (e1 hG PT_127 k127_131 _ _ _) ?_
  refine bdc fun H31 => ?_
  show G 127 133 [some (.inr (.inr x0)), none, none, none, none, none] [.inr (.inr H30.2.1.1), .inr (.inr x0)] H31 = _
  refine Eq.trans (e1 hG PT_127 k127_133 _ _ _) ?_
  refine bdc fun H32 => ?_
  show G 127 136 [some (.inr (.inr x0)), none, none, none, none, none] [] H32 = _
  refine Eq.trans (e1 hG PT_127 k127_136 _ _ _) ?_
  show G 127 137 [some (.inr (.inr x0)), none, none, none, none, none] [.inr (.inr x0)] H32 = _
  refine Eq.trans (e1 hG PT_127 k127_137 _ _ _) ?_
  show G 127 140 [some (.inr (.inr x0)), none, none, none, none, none] [.inl 252, .inr (.inr x0)] H32 = _
  refine Eq.trans (e1 hG PT_127 k127_140 _ _ _) ?_
  refine bdc fun H33 => ?_
  show G 127 142 [some (.inr (.inr x0)), none, none, none, none, none] [.inr (.inr H32.2.1.1), .inr (.inr x0)] H33 = _
  refine Eq.trans (e1 hG PT_127 k127_142 _ _ _) ?_
  refine bdc fun H34 => ?_
  show G 127 145 [some (.inr (.inr x0)), none, none, none, none, none] [] H34 = _
  refine Eq.trans (e1 hG PT_127 k127_145 _ _ _) ?_
  show G 127 146 [some (.inr (.inr x0)), none, none, none, none, none] [.inr (.inr x0)] H34 = _
  refine Eq.trans (e1 hG PT_127 k127_146 _ _ _) ?_
  show G 127 149 [some (.inr (.inr x0)), none, none, none, none, none] [.inl 252, .inr (.inr x0)] H34 = _
  refine Eq.trans (e1 hG PT_127 k127_149 _ _ _) ?_
  refine bdc fun H35 => ?_
  show G 127 151 [some (.inr (.inr x0)), none, none, none, none, none] [.inr (.inr H34.2.1.1), .inr (.inr x0)] H35 = _
  refine Eq.trans (e1 hG PT_127 k127_151 _ _ _) ?_
  refine bdc fun H36 => ?_
  show G 127 154 [some (.inr (.inr x0)), none, none, none, none, none] [] H36 = _
  refine Eq.trans (e1 hG PT_127 k127_154 _ _ _) ?_
  show G 127 155 [some (.inr (.inr x0)), none, none, none, none, none] [.inr (.inr x0)] H36 = _
  refine Eq.trans (e1 hG PT_127 k127_155 _ _ _) ?_
  show G 127 157 [some (.inr (.inr x0)), none, none, none, none, none] [.inl 30, .inr (.inr x0)] H36 = _
  refine Eq.trans (e1 hG PT_127 k127_157 _ _ _) ?_
  refine bdc fun H37 => ?_
  show G 127 159 [some (.inr (.inr x0)), none, none, none, none, none] [.inr (.inr H36.2.1.1), .inr (.inr x0)] H37 = _
  refine Eq.trans (e1 hG PT_127 k127_159 _ _ _) ?_
  show G 127 160 [some (.inr (.inr x0)), none, none, none, none, none] [.inr (.inr H36.2.1.1), .inr (.inr H36.2.1.1), .inr (.inr x0)] H37 = _
  refine Eq.trans (e1 hG PT_127 k127_160 _ _ _) ?_
  show G 127 161 [some (.inr (.inr x0)), none, none, none, none, none] [.inl 0, .inr (.inr H36.2.1.1), .inr (.inr H36.2.1.1), .inr (.inr x0)] H37 = _
  refine Eq.trans (e1 hG PT_127 k127_161 _ _ _) ?_
  show G 127 162 [some (.inr (.inr x0)), none, none, none, none, none] [.inl 0, .inl 0, .inr (.inr H36.2.1.1), .inr (.inr H36.2.1.1), .inr (.inr x0)] H37 = _
  refine Eq.trans (e1 hG PT_127 k127_162 _ _ _) ?_
  refine bdc fun H38 => ?_
  show G 127 163 [some (.inr (.inr x0)), none, none, none, none, none] [.inr (.inr H36.2.1.1), .inr (.inr x0)] H38 = _
  refine Eq.trans (e1 hG PT_127 k127_163 _ _ _) ?_
  show G 127 164 [some (.inr (.inr x0)), none, none, none, none, none] [.inr (.inr H36.2.1.1), .inr (.inr H36.2.1.1), .inr (.inr x0)] H38 = _
  refine Eq.trans (e1 hG PT_127 k127_164 _ _ _) ?_
  show G 127 165 [some (.inr (.inr x0)), none, none, none, none, none] [.inl 1, .inr (.inr H36.2.1.1), .inr (.inr H36.2.1.1), .inr (.inr x0)] H38 = _
  refine Eq.trans (e1 hG PT_127 k127_165 _ _ _) ?_
  show G 127 167 [some (.inr (.inr x0)), none, none, none, none, none] [.inl 60, .inl 1, .inr (.inr H36.2.1.1), .inr (.inr H36.2.1.1), .inr (.inr x0)] H38 = _
  refine Eq.trans (e1 hG PT_127 k127_167 _ _ _) ?_
  refine bdc fun H39 => ?_
  show G 127 168 [some (.inr (.inr x0)), none, none, none, none, none] [.inr (.inr H36.2.1.1), .inr (.inr x0)] H39 = _
  refine Eq.trans (e1 hG PT_127 k127_168 _ _ _) ?_
  show G 127 169 [some (.inr (.inr x0)), none, none, none, none, none] [.inr (.inr H36.2.1.1), .inr (.inr H36.2.1.1), .inr (.inr x0)] H39 = _
  refine Eq.trans (e1 hG PT_127 k127_169 _ _ _) ?_
  show G 127 170 [some (.inr (.inr x0)), none, none, none, none, none] [.inl 2, .inr (.inr H36.2.1.1), .inr (.inr H36.2.1.1), .inr (.inr x0)] H39 = _
  refine Eq.trans (e1 hG PT_127 k127_170 _ _ _) ?_
  show G 127 171 [some (.inr (.inr x0)), none, none, none, none, none] [.inl 0, .inl 2, .inr (.inr H36.2.1.1), .inr (.inr H36.2.1.1), .inr (.inr x0)] H39 = _
  refine Eq.trans (e1 hG PT_127 k127_171 _ _ _) ?_
  refine bdc fun H40 => ?_
  show G 127 172 [some (.inr (.inr x0)), none, none, none, none, none] [.inr (.inr H36.2.1.1), .inr (.inr x0)] H40 = _
  refine Eq.trans (e1 hG PT_127 k127_172 _ _ _) ?_
  show G 127 173 [some (.inr (.inr x0)), none, none, none, none, none] [.inr (.inr H36.2.1.1), .inr (.inr H36.2.1.1), .inr (.inr x0)] H40 = _
  refine Eq.trans (e1 hG PT_127 k127_173 _ _ _) ?_
  show G 127 174 [some (.inr (.inr x0)), none, none, none, none, none] [.inl 3, .inr (.inr H36.2.1.1), .inr (.inr H36.2.1.1), .inr (.inr x0)] H40 = _
  refine Eq.trans (e1 hG PT_127 k127_174 _ _ _) ?_
  show G 127 175 [some (.inr (.inr x0)), none, none, none, none, none] [.inl 0, .inl 3, .inr (.inr H36.2.1.1), .inr (.inr H36.2.1.1), .inr (.inr x0)] H40 = _
  refine Eq.trans (e1 hG PT_127 k127_175 _ _ _) ?_
  refine bdc fun H41 => ?_
  show G 127 176 [some (.inr (.inr x0)), none, none, none, none, none] [.inr (.inr H36.2.1.1), .inr (.inr x0)] H41 = _
  refine Eq.trans (e1 hG PT_127 k127_176 _ _ _) ?_
  show G 127 177 [some (.inr (.inr x0)), none, none, none, none, none] [.inr (.inr H36.2.1.1), .inr (.inr H36.2.1.1), .inr (.inr x0)] H41 = _
  refine Eq.trans (e1 hG PT_127 k127_177 _ _ _) ?_
  show G 127 178 [some (.inr (.inr x0)), none, none, none, none, none] [.inl 4, .inr (.inr H36.2.1.1), .inr (.inr H36.2.1.1), .inr (.inr x0)] H41 = _
  refine Eq.trans (e1 hG PT_127 k127_178 _ _ _) ?_
  show G 127 179 [some (.inr (.inr x0)), none, none, none, none, none] [.inl 0, .inl 4, .inr (.inr H36.2.1.1), .inr (.inr H36.2.1.1), .inr (.inr x0)] H41 = _
  refine Eq.trans (e1 hG PT_127 k127_179 _ _ _) ?_
  refine bdc fun H42 => ?_
  show G 127 180 [some (.inr (.inr x0)), none, none, none, none, none] [.inr (.inr H36.2.1.1), .inr (.inr x0)] H42 = _
  refine Eq.trans (e1 hG PT_127 k127_180 _ _ _) ?_
  show G 127 181 [some (.inr (.inr x0)), none, none, none, none, none] [.inr (.inr H36.2.1.1), .inr (.inr H36.2.1.1), .inr (.inr x0)] H42 = _
  refine Eq.trans (e1 hG PT_127 k127_181 _ _ _) ?_
  show G 127 182 [some (.inr (.inr x0)), none, none, none, none, none] [.inl 5, .inr (.inr H36.2.1.1), .inr (.inr H36.2.1.1), .inr (.inr x0)] H42 = _
  refine Eq.trans (e1 hG PT_127 k127_182 _ _ _) ?_
  show G 127 183 [some (.inr (.inr x0)), none, none, none, none, none] [.inl 0, .inl 5, .inr (.inr H36.2.1.1), .inr (.inr H36.2.1.1), .inr (.inr x0)] H42 = _
  refine Eq.trans (e1 hG PT_127 k127_183 _ _ _) ?_
  refine bdc fun H43 => ?_
  show G 127 184 [some (.inr (.inr x0)), none, none, none, none, none] [.inr (.inr H36.2.1.1), .inr (.inr x0)] H43 = _
  refine Eq.trans (e1 hG PT_127 k127_184 _ _ _) ?_
  show G 127 185 [some (.inr (.inr x0)), none, none, none, none, none] [.inr (.inr H36.2.1.1), .inr (.inr H36.2.1.1), .inr (.inr x0)] H43 = _
  refine Eq.trans (e1 hG PT_127 k127_185 _ _ _) ?_
  show G 127 187 [some (.inr (.inr x0)), none, none, none, none, none] [.inl 6, .inr (.inr H36.2.1.1), .inr (.inr H36.2.1.1), .inr (.inr x0)] H43 = _
  refine Eq.trans (e1 hG PT_127 k127_187 _ _ _) ?_
  show G 127 188 [some (.inr (.inr x0)), none, none, none, none, none] [.inl 0, .inl 6, .inr (.inr H36.2.1.1), .inr (.inr H36.2.1.1), .inr (.inr x0)] H43 = _
  refine Eq.trans (e1 hG PT_127 k127_188 _ _ _) ?_
  refine bdc fun H44 => ?_
  show G 127 189 [some (.inr (.inr x0)), none, none, none, none, none] [.inr (.inr H36.2.1.1), .inr (.inr x0)] H44 = _
  refine Eq.trans (e1 hG PT_127 k127_189 _ _ _) ?_
  show G 127 190 [some (.inr (.inr x0)), none, none, none, none, none] [.inr (.inr H36.2.1.1), .inr (.inr H36.2.1.1), .inr (.inr x0)] H44 = _
  refine Eq.trans (e1 hG PT_127 k127_190 _ _ _) ?_
  show G 127 192 [some (.inr (.inr x0)), none, none, none, none, none] [.inl 7, .inr (.inr H36.2.1.1), .inr (.inr H36.2.1.1), .inr (.inr x0)] H44 = _
  refine Eq.trans (e1 hG PT_127 k127_192 _ _ _) ?_
  show G 127 194 [some (.inr (.inr x0)), none, none, none, none, none] [.inl 30, .inl 7, .inr (.inr H36.2.1.1), .inr (.inr H36.2.1.1), .inr (.inr x0)] H44 = _
  refine Eq.trans (e1 hG PT_127 k127_194 _ _ _) ?_
  refine bdc fun H45 => ?_
  show G 127 195 [some (.inr (.inr x0)), none, none, none, none, none] [.inr (.inr H36.2.1.1), .inr (.inr x0)] H45 = _
  refine Eq.trans (e1 hG PT_127 k127_195 _ _ _) ?_
  show G 127 196 [some (.inr (.inr x0)), none, none, none, none, none] [.inr (.inr H36.2.1.1), .inr (.inr H36.2.1.1), .inr (.inr x0)] H45 = _
  refine Eq.trans (e1 hG PT_127 k127_196 _ _ _) ?_
  show G 127 198 [some (.inr (.inr x0)), none, none, none, none, none] [.inl 8, .inr (.inr H36.2.1.1), .inr (.inr H36.2.1.1), .inr (.inr x0)] H45 = _
  refine Eq.trans (e1 hG PT_127 k127_198 _ _ _) ?_
  show G 127 200 [some (.inr (.inr x0)), none, none, none, none, none] [.inl 30, .inl 8, .inr (.inr H36.2.1.1), .inr (.inr H36.2.1.1), .inr (.inr x0)] H45 = _
  refine Eq.trans (e1 hG PT_127 k127_200 _ _ _) ?_
  refine bdc fun H46 => ?_
  show G 127 201 [some (.inr (.inr x0)), none, none, none, none, none] [.inr (.inr H36.2.1.1), .inr (.inr x0)] H46 = _
  refine Eq.trans (e1 hG PT_127 k127_201 _ _ _) ?_
  show G 127 202 [some (.inr (.inr x0)), none, none, none, none, none] [.inr (.inr H36.2.1.1), .inr (.inr H36.2.1.1), .inr (.inr x0)] H46 = _
  refine Eq.trans (e1 hG PT_127 k127_202 _ _ _) ?_
  show G 127 204 [some (.inr (.inr x0)), none, none, none, none, none] [.inl 9, .inr (.inr H36.2.1.1), .inr (.inr H36.2.1.1), .inr (.inr x0)] H46 = _
  refine Eq.trans (e1 hG PT_127 k127_204 _ _ _) ?_
  show G 127 205 [some (.inr (.inr x0)), none, none, none, none, none] [.inl 0, .inl 9, .inr (.inr H36.2.1.1), .inr (.inr H36.2.1.1), .inr (.inr x0)] H46 = _
  refine Eq.trans (e1 hG PT_127 k127_205 _ _ _) ?_
  refine bdc fun H47 => ?_
  show G 127 206 [some (.inr (.inr x0)), none, none, none, none, none] [.inr (.inr H36.2.1.1), .inr (.inr x0)] H47 = _
  refine Eq.trans (e1 hG PT_127 k127_206 _ _ _) ?_
  show G 127 207 [some (.inr (.inr x0)), none, none, none, none, none] [.inr (.inr H36.2.1.1), .inr (.inr H36.2.1.1), .inr (.inr x0)] H47 = _
  refine Eq.trans (e1 hG PT_127 k127_207 _ _ _) ?_
  show G 127 209 [some (.inr (.inr x0)), none, none, none, none, none] [.inl 10, .inr (.inr H36.2.1.1), .inr (.inr H36.2.1.1), .inr (.inr x0)] H47 = _
  refine Eq.trans (e1 hG PT_127 k127_209 _ _ _) ?_
  show G 127 210 [some (.inr (.inr x0)), none, none, none, none, none] [.inl 0, .inl 10, .inr (.inr H36.2.1.1), .inr (.inr H36.2.1.1), .inr (.inr x0)] H47 = _
  refine Eq.trans (e1 hG PT_127 k127_210 _ _ _) ?_
  refine bdc fun H48 => ?_
  show G 127 211 [some (.inr (.inr x0)), none, none, none, none, none] [.inr (.inr H36.2.1.1), .inr (.inr x0)] H48 = _
  refine Eq.trans (e1 hG PT_127 k127_211 _ _ _) ?_
  show G 127 212 [some (.inr (.inr x0)), none, none, none, none, none] [.inr (.inr H36.2.1.1), .inr (.inr H36.2.1.1), .inr (.inr x0)] H48 = _
  refine Eq.trans (e1 hG PT_127 k127_212 _ _ _) ?_
  show G 127 214 [some (.inr (.inr x0)), none, none, none, none, none] [.inl 11, .inr (.inr H36.2.1.1), .inr (.inr H36.2.1.1), .inr (.inr x0)] H48 = _
  refine Eq.trans (e1 hG PT_127 k127_214 _ _ _) ?_
  show G 127 215 [some (.inr (.inr x0)), none, none, none, none, none] [.inl 0, .inl 11, .inr (.inr H36.2.1.1), .inr (.inr H36.2.1.1), .inr (.inr x0)] H48 = _
  refine Eq.trans (e1 hG PT_127 k127_215 _ _ _) ?_
  refine bdc fun H49 => ?_
  show G 127 216 [some (.inr (.inr x0)), none, none, none, none, none] [.inr (.inr H36.2.1.1), .inr (.inr x0)] H49 = _
  refine Eq.trans (e1 hG PT_127 k127_216 _ _ _) ?_
  show G 127 217 [some (.inr (.inr x0)), none, none, none, none, none] [.inr (.inr H36.2.1.1), .inr (.inr H36.2.1.1), .inr (.inr x0)] H49 = _
  refine Eq.trans (e1 hG PT_127 k127_217 _ _ _) ?_
  show G 127 219 [some (.inr (.inr x0)), none, none, none, none, none] [.inl 12, .inr (.inr H36.2.1.1), .inr (.inr H36.2.1.1), .inr (.inr x0)] H49 = _
  refine Eq.trans (e1 hG PT_127 k127_219 _ _ _) ?_
  show G 127 220 [some (.inr (.inr x0)), none, none, none, none, none] [.inl 0, .inl 12, .inr (.inr H36.2.1.1), .inr (.inr H36.2.1.1), .inr (.inr x0)] H49 = _
  refine Eq.trans (e1 hG PT_127 k127_220 _ _ _) ?_
  refine bdc fun H50 => ?_
  show G 127 221 [some (.inr (.inr x0)), none, none, none, none, none] [.inr (.inr H36.2.1.1), .inr (.inr x0)] H50 = _
  refine Eq.trans (e1 hG PT_127 k127_221 _ _ _) ?_
  show G 127 222 [some (.inr (.inr x0)), none, none, none, none, none] [.inr (.inr H36.2.1.1), .inr (.inr H36.2.1.1), .inr (.inr x0)] H50 = _
  refine Eq.trans (e1 hG PT_127 k127_222 _ _ _) ?_
  show G 127 224 [some (.inr (.inr x0)), none, none, none, none, none] [.inl 13, .inr (.inr H36.2.1.1), .inr (.inr H36.2.1.1), .inr (.inr x0)] H50 = _
  refine Eq.trans (e1 hG PT_127 k127_224 _ _ _) ?_
  show G 127 226 [some (.inr (.inr x0)), none, none, none, none, none] [.inl 10, .inl 13, .inr (.inr H36.2.1.1), .inr (.inr H36.2.1.1), .inr (.inr x0)] H50 = _
  refine Eq.trans (e1 hG PT_127 k127_226 _ _ _) ?_
  refine bdc fun H51 => ?_
  show G 127 227 [some (.inr (.inr x0)), none, none, none, none, none] [.inr (.inr H36.2.1.1), .inr (.inr x0)] H51 = _
  refine Eq.trans (e1 hG PT_127 k127_227 _ _ _) ?_
  show G 127 228 [some (.inr (.inr x0)), none, none, none, none, none] [.inr (.inr H36.2.1.1), .inr (.inr H36.2.1.1), .inr (.inr x0)] H51 = _
  refine Eq.trans (e1 hG PT_127 k127_228 _ _ _) ?_
  show G 127 230 [some (.inr (.inr x0)), none, none, none, none, none] [.inl 14, .inr (.inr H36.2.1.1), .inr (.inr H36.2.1.1), .inr (.inr x0)] H51 = _
  refine Eq.trans (e1 hG PT_127 k127_230 _ _ _) ?_
  show G 127 232 [some (.inr (.inr x0)), none, none, none, none, none] [.inl 30, .inl 14, .inr (.inr H36.2.1.1), .inr (.inr H36.2.1.1), .inr (.inr x0)] H51 = _
  refine Eq.trans (e1 hG PT_127 k127_232 _ _ _) ?_
  refine bdc fun H52 => ?_
  show G 127 233 [some (.inr (.inr x0)), none, none, none, none, none] [.inr (.inr H36.2.1.1), .inr (.inr x0)] H52 = _
  refine Eq.trans (e1 hG PT_127 k127_233 _ _ _) ?_
  show G 127 234 [some (.inr (.inr x0)), none, none, none, none, none] [.inr (.inr H36.2.1.1), .inr (.inr H36.2.1.1), .inr (.inr x0)] H52 = _
  refine Eq.trans (e1 hG PT_127 k127_234 _ _ _) ?_
  show G 127 236 [some (.inr (.inr x0)), none, none, none, none, none] [.inl 15, .inr (.inr H36.2.1.1), .inr (.inr H36.2.1.1), .inr (.inr x0)] H52 = _
  refine Eq.trans (e1 hG PT_127 k127_236 _ _ _) ?_
  show G 127 238 [some (.inr (.inr x0)), none, none, none, none, none] [.inl 20, .inl 15, .inr (.inr H36.2.1.1), .inr (.inr H36.2.1.1), .inr (.inr x0)] H52 = _
  refine Eq.trans (e1 hG PT_127 k127_238 _ _ _) ?_
  refine bdc fun H53 => ?_
  show G 127 239 [some (.inr (.inr x0)), none, none, none, none, none] [.inr (.inr H36.2.1.1), .inr (.inr x0)] H53 = _
  refine Eq.trans (e1 hG PT_127 k127_239 _ _ _) ?_
  show G 127 240 [some (.inr (.inr x0)), none, none, none, none, none] [.inr (.inr H36.2.1.1), .inr (.inr H36.2.1.1), .inr (.inr x0)] H53 = _
  refine Eq.trans (e1 hG PT_127 k127_240 _ _ _) ?_
  show G 127 242 [some (.inr (.inr x0)), none, none, none, none, none] [.inl 16, .inr (.inr H36.2.1.1), .inr (.inr H36.2.1.1), .inr (.inr x0)] H53 = _
  refine Eq.trans (e1 hG PT_127 k127_242 _ _ _) ?_
  show G 127 243 [some (.inr (.inr x0)), none, none, none, none, none] [.inl 0, .inl 16, .inr (.inr H36.2.1.1), .inr (.inr H36.2.1.1), .inr (.inr x0)] H53 = _
  refine Eq.trans (e1 hG PT_127 k127_243 _ _ _) ?_
  refine bdc fun H54 => ?_
  show G 127 244 [some (.inr (.inr x0)), none, none, none, none, none] [.inr (.inr H36.2.1.1), .inr (.inr x0)] H54 = _
  refine Eq.trans (e1 hG PT_127 k127_244 _ _ _) ?_
  show G 127 245 [some (.inr (.inr x0)), none, none, none, none, none] [.inr (.inr H36.2.1.1), .inr (.inr H36.2.1.1), .inr (.inr x0)] H54 = _
  refine Eq.trans (e1 hG PT_127 k127_245 _ _ _) ?_
  show G 127 247 [some (.inr (.inr x0)), none, none, none, none, none] [.inl 17, .inr (.inr H36.2.1.1), .inr (.inr H36.2.1.1), .inr (.inr x0)] H54 = _
  refine Eq.trans (e1 hG PT_127 k127_247 _ _ _) ?_
  show G 127 248 [some (.inr (.inr x0)), none, none, none, none, none] [.inl 0, .inl 17, .inr (.inr H36.2.1.1), .inr (.inr H36.2.1.1), .inr (.inr x0)] H54 = _
  refine Eq.trans (e1 hG PT_127 k127_248 _ _ _) ?_
  refine bdc fun H55 => ?_
  show G 127 249 [some (.inr (.inr x0)), none, none, none, none, none] [.inr (.inr H36.2.1.1), .inr (.inr x0)] H55 = _
  refine Eq.trans (e1 hG PT_127 k127_249 _ _ _) ?_
  show G 127 250 [some (.inr (.inr x0)), none, none, none, none, none] [.inr (.inr H36.2.1.1), .inr (.inr H36.2.1.1), .inr (.inr x0)] H55 = _
  refine Eq.trans (e1 hG PT_127 k127_250 _ _ _) ?_
  show G 127 252 [some (.inr (.inr x0)), none, none, none, none, none] [.inl 18, .inr (.inr H36.2.1.1), .inr (.inr H36.2.1.1), .inr (.inr x0)] H55 = _
  refine Eq.trans (e1 hG PT_127 k127_252 _ _ _) ?_
  show G 127 253 [some (.inr (.inr x0)), none, none, none, none, none] [.inl 0, .inl 18, .inr (.inr H36.2.1.1), .inr (.inr H36.2.1.1), .inr (.inr x0)] H55 = _
  refine Eq.trans (e1 hG PT_127 k127_253 _ _ _) ?_
  refine bdc fun H56 => ?_
  show G 127 254 [some (.inr (.inr x0)), none, none, none, none, none] [.inr (.inr H36.2.1.1), .inr (.inr x0)] H56 = _
  refine Eq.trans (e1 hG PT_127 k127_254 _ _ _) ?_
  show G 127 255 [some (.inr (.inr x0)), none, none, none, none, none] [.inr (.inr H36.2.1.1), .inr (.inr H36.2.1.1), .inr (.inr x0)] H56 = _
  refine Eq.trans (e1 hG PT_127 k127_255 _ _ _) ?_
  show G 127 257 [some (.inr (.inr x0)), none, none, none, none, none] [.inl 19, .inr (.inr H36.2.1.1), .inr (.inr H36.2.1.1), .inr (.inr x0)] H56 = _
  refine Eq.trans (e1 hG PT_127 k127_257 _ _ _) ?_
  show G 127 258 [some (.inr (.inr x0)), none, none, none, none, none] [.inl 0, .inl 19, .inr (.inr H36.2.1.1), .inr (.inr H36.2.1.1), .inr (.inr x0)] H56 = _
  refine Eq.trans (e1 hG PT_127 k127_258 _ _ _) ?_
  refine bdc fun H57 => ?_
  show G 127 259 [some (.inr (.inr x0)), none, none, none, none, none] [.inr (.inr H36.2.1.1), .inr (.inr x0)] H57 = _
  refine Eq.trans (e1 hG PT_127 k127_259 _ _ _) ?_
  show G 127 260 [some (.inr (.inr x0)), none, none, none, none, none] [.inr (.inr H36.2.1.1), .inr (.inr H36.2.1.1), .inr (.inr x0)] H57 = _
  refine Eq.trans (e1 hG PT_127 k127_260 _ _ _) ?_
  show G 127 262 [some (.inr (.inr x0)), none, none, none, none, none] [.inl 20, .inr (.inr H36.2.1.1), .inr (.inr H36.2.1.1), .inr (.inr x0)] H57 = _
  refine Eq.trans (e1 hG PT_127 k127_262 _ _ _) ?_
  show G 127 264 [some (.inr (.inr x0)), none, none, none, none, none] [.inl 15, .inl 20, .inr (.inr H36.2.1.1), .inr (.inr H36.2.1.1), .inr (.inr x0)] H57 = _
  refine Eq.trans (e1 hG PT_127 k127_264 _ _ _) ?_
  refine bdc fun H58 => ?_
  show G 127 265 [some (.inr (.inr x0)), none, none, none, none, none] [.inr (.inr H36.2.1.1), .inr (.inr x0)] H58 = _
  refine Eq.trans (e1 hG PT_127 k127_265 _ _ _) ?_
  show G 127 266 [some (.inr (.inr x0)), none, none, none, none, none] [.inr (.inr H36.2.1.1), .inr (.inr H36.2.1.1), .inr (.inr x0)] H58 = _
  refine Eq.trans (e1 hG PT_127 k127_266 _ _ _) ?_
  show G 127 268 [some (.inr (.inr x0)), none, none, none, none, none] [.inl 21, .inr (.inr H36.2.1.1), .inr (.inr H36.2.1.1), .inr (.inr x0)] H58 = _
  refine Eq.trans (e1 hG PT_127 k127_268 _ _ _) ?_
  show G 127 270 [some (.inr (.inr x0)), none, none, none, none, none] [.inl 30, .inl 21, .inr (.inr H36.2.1.1), .inr (.inr H36.2.1.1), .inr (.inr x0)] H58 = _
  refine Eq.trans (e1 hG PT_127 k127_270 _ _ _) ?_
  refine bdc fun H59 => ?_
  show G 127 271 [some (.inr (.inr x0)), none, none, none, none, none] [.inr (.inr H36.2.1.1), .inr (.inr x0)] H59 = _
  refine Eq.trans (e1 hG PT_127 k127_271 _ _ _) ?_
  show G 127 272 [some (.inr (.inr x0)), none, none, none, none, none] [.inr (.inr H36.2.1.1), .inr (.inr H36.2.1.1), .inr (.inr x0)] H59 = _
  refine Eq.trans (e1 hG PT_127 k127_272 _ _ _) ?_
  show G 127 274 [some (.inr (.inr x0)), none, none, none, none, none] [.inl 22, .inr (.inr H36.2.1.1), .inr (.inr H36.2.1.1), .inr (.inr x0)] H59 = _
  refine Eq.trans (e1 hG PT_127 k127_274 _ _ _) ?_
  show G 127 276 [some (.inr (.inr x0)), none, none, none, none, none] [.inl 15, .inl 22, .inr (.inr H36.2.1.1), .inr (.inr H36.2.1.1), .inr (.inr x0)] H59 = _
  refine Eq.trans (e1 hG PT_127 k127_276 _ _ _) ?_
  refine bdc fun H60 => ?_
  show G 127 277 [some (.inr (.inr x0)), none, none, none, none, none] [.inr (.inr H36.2.1.1), .inr (.inr x0)] H60 = _
  refine Eq.trans (e1 hG PT_127 k127_277 _ _ _) ?_
  show G 127 278 [some (.inr (.inr x0)), none, none, none, none, none] [.inr (.inr H36.2.1.1), .inr (.inr H36.2.1.1), .inr (.inr x0)] H60 = _
  refine Eq.trans (e1 hG PT_127 k127_278 _ _ _) ?_
  show G 127 280 [some (.inr (.inr x0)), none, none, none, none, none] [.inl 23, .inr (.inr H36.2.1.1), .inr (.inr H36.2.1.1), .inr (.inr x0)] H60 = _
  refine Eq.trans (e1 hG PT_127 k127_280 _ _ _) ?_
  show G 127 281 [some (.inr (.inr x0)), none, none, none, none, none] [.inl 0, .inl 23, .inr (.inr H36.2.1.1), .inr (.inr H36.2.1.1), .inr (.inr x0)] H60 = _
  refine Eq.trans (e1 hG PT_127 k127_281 _ _ _) ?_
  refine bdc fun H61 => ?_
  show G 127 282 [some (.inr (.inr x0)), none, none, none, none, none] [.inr (.inr H36.2.1.1), .inr (.inr x0)] H61 = _
  refine Eq.trans (e1 hG PT_127 k127_282 _ _ _) ?_
  show G 127 283 [some (.inr (.inr x0)), none, none, none, none, none] [.inr (.inr H36.2.1.1), .inr (.inr H36.2.1.1), .inr (.inr x0)] H61 = _
  refine Eq.trans (e1 hG PT_127 k127_283 _ _ _) ?_
  show G 127 285 [some (.inr (.inr x0)), none, none, none, none, none] [.inl 24, .inr (.inr H36.2.1.1), .inr (.inr H36.2.1.1), .inr (.inr x0)] H61 = _
  refine Eq.trans (e1 hG PT_127 k127_285 _ _ _) ?_
  show G 127 286 [some (.inr (.inr x0)), none, none, none, none, none] [.inl 0, .inl 24, .inr (.inr H36.2.1.1), .inr (.inr H36.2.1.1), .inr (.inr x0)] H61 = _
  refine Eq.trans (e1 hG PT_127 k127_286 _ _ _) ?_
  refine bdc fun H62 => ?_
  show G 127 287 [some (.inr (.inr x0)), none, none, none, none, none] [.inr (.inr H36.2.1.1), .inr (.inr x0)] H62 = _
  refine Eq.trans (e1 hG PT_127 k127_287 _ _ _) ?_
  show G 127 288 [some (.inr (.inr x0)), none, none, none, none, none] [.inr (.inr H36.2.1.1), .inr (.inr H36.2.1.1), .inr (.inr x0)] H62 = _
  refine Eq.trans (e1 hG PT_127 k127_288 _ _ _) ?_
  show G 127 290 [some (.inr (.inr x0)), none, none, none, none, none] [.inl 25, .inr (.inr H36.2.1.1), .inr (.inr H36.2.1.1), .inr (.inr x0)] H62 = _
  refine Eq.trans (e1 hG PT_127 k127_290 _ _ _) ?_
  show G 127 292 [some (.inr (.inr x0)), none, none, none, none, none] [.inl (-2), .inl 25, .inr (.inr H36.2.1.1), .inr (.inr H36.2.1.1), .inr (.inr x0)] H62 = _
  refine Eq.trans (e1 hG PT_127 k127_292 _ _ _) ?_
  refine bdc fun H63 => ?_
  show G 127 293 [some (.inr (.inr x0)), none, none, none, none, none] [.inr (.inr H36.2.1.1), .inr (.inr x0)] H63 = _
  refine Eq.trans (e1 hG PT_127 k127_293 _ _ _) ?_
  show G 127 294 [some (.inr (.inr x0)), none, none, none, none, none] [.inr (.inr H36.2.1.1), .inr (.inr H36.2.1.1), .inr (.inr x0)] H63 = _
  refine Eq.trans (e1 hG PT_127 k127_294 _ _ _) ?_
  show G 127 296 [some (.inr (.inr x0)), none, none, none, none, none] [.inl 26, .inr (.inr H36.2.1.1), .inr (.inr H36.2.1.1), .inr (.inr x0)] H63 = _
  refine Eq.trans (e1 hG PT_127 k127_296 _ _ _) ?_
  show G 127 297 [some (.inr (.inr x0)), none, none, none, none, none] [.inl 0, .inl 26, .inr (.inr H36.2.1.1), .inr (.inr H36.2.1.1), .inr (.inr x0)] H63 = _
  refine Eq.trans (e1 hG PT_127 k127_297 _ _ _) ?_
  refine bdc fun H64 => ?_
  show G 127 298 [some (.inr (.inr x0)), none, none, none, none, none] [.inr (.inr H36.2.1.1), .inr (.inr x0)] H64 = _
  refine Eq.trans (e1 hG PT_127 k127_298 _ _ _) ?_
  show G 127 299 [some (.inr (.inr x0)), none, none, none, none, none] [.inr (.inr H36.2.1.1), .inr (.inr H36.2.1.1), .inr (.inr x0)] H64 = _
  refine Eq.trans (e1 hG PT_127 k127_299 _ _ _) ?_
  show G 127 301 [some (.inr (.inr x0)), none, none, none, none, none] [.inl 27, .inr (.inr H36.2.1.1), .inr (.inr H36.2.1.1), .inr (.inr x0)] H64 = _
  refine Eq.trans (e1 hG PT_127 k127_301 _ _ _) ?_
  show G 127 303 [some (.inr (.inr x0)), none, none, none, none, none] [.inl 20, .inl 27, .inr (.inr H36.2.1.1), .inr (.inr H36.2.1.1), .inr (.inr x0)] H64 = _
  refine Eq.trans (e1 hG PT_127 k127_303 _ _ _) ?_
  refine bdc fun H65 => ?_
  show G 127 304 [some (.inr (.inr x0)), none, none, none, none, none] [.inr (.inr H36.2.1.1), .inr (.inr x0)] H65 = _
  refine Eq.trans (e1 hG PT_127 k127_304 _ _ _) ?_
  show G 127 305 [some (.inr (.inr x0)), none, none, none, none, none] [.inr (.inr H36.2.1.1), .inr (.inr H36.2.1.1), .inr (.inr x0)] H65 = _
  refine Eq.trans (e1 hG PT_127 k127_305 _ _ _) ?_
  show G 127 307 [some (.inr (.inr x0)), none, none, none, none, none] [.inl 28, .inr (.inr H36.2.1.1), .inr (.inr H36.2.1.1), .inr (.inr x0)] H65 = _
  refine Eq.trans (e1 hG PT_127 k127_307 _ _ _) ?_
  show G 127 309 [some (.inr (.inr x0)), none, none, none, none, none] [.inl 30, .inl 28, .inr (.inr H36.2.1.1), .inr (.inr H36.2.1.1), .inr (.inr x0)] H65 = _
  refine Eq.trans (e1 hG PT_127 k127_309 _ _ _) ?_
  refine bdc fun H66 => ?_
  show G 127 310 [some (.inr (.inr x0)), none, none, none, none, none] [.inr (.inr H36.2.1.1), .inr (.inr x0)] H66 = _
  refine Eq.trans (e1 hG PT_127 k127_310 _ _ _) ?_
  show G 127 311 [some (.inr (.inr x0)), none, none, none, none, none] [.inr (.inr H36.2.1.1), .inr (.inr H36.2.1.1), .inr (.inr x0)] H66 = _
  refine Eq.trans (e1 hG PT_127 k127_311 _ _ _) ?_
  show G 127 313 [some (.inr (.inr x0)), none, none, none, none, none] [.inl 29, .inr (.inr H36.2.1.1), .inr (.inr H36.2.1.1), .inr (.inr x0)] H66 = _
  refine Eq.trans (e1 hG PT_127 k127_313 _ _ _) ?_
  show G 127 315 [some (.inr (.inr x0)), none, none, none, none, none] [.inl 12, .inl 29, .inr (.inr H36.2.1.1), .inr (.inr H36.2.1.1), .inr (.inr x0)] H66 = _
  refine Eq.trans (e1 hG PT_127 k127_315 _ _ _) ?_
  refine bdc fun H67 => ?_
  show G 127 316 [some (.inr (.inr x0)), none, none, none, none, none] [.inr (.inr H36.2.1.1), .inr (.inr x0)] H67 = _
  refine Eq.trans (e1 hG PT_127 k127_316 _ _ _) ?_
  refine bdc fun H68 => ?_
  show G 127 319 [some (.inr (.inr x0)), none, none, none, none, none] [] H68 = _
  refine Eq.trans (e1 hG PT_127 k127_319 _ _ _) ?_
  show G 127 320 [some (.inr (.inr x0)), none, none, none, none, none] [.inr (.inr x0)] H68 = _
  refine Eq.trans (e1 hG PT_127 k127_320 _ _ _) ?_
  show G 127 322 [some (.inr (.inr x0)), none, none, none, none, none] [.inl 24, .inr (.inr x0)] H68 = _
  refine Eq.trans (e1 hG PT_127 k127_322 _ _ _) ?_
  refine bdc fun H69 => ?_
  show G 127 324 [some (.inr (.inr x0)), none, none, none, none, none] [.inr (.inr H68.2.1.1), .inr (.inr x0)] H69 = _
  refine Eq.trans (e1 hG PT_127 k127_324 _ _ _) ?_
  refine bdc fun H70 => ?_
  show G 127 327 [some (.inr (.inr x0)), none, none, none, none, none] [] H70 = _
  refine Eq.trans (e1 hG PT_127 k127_327 _ _ _) ?_
  show G 127 328 [some (.inr (.inr x0)), none, none, none, none, none] [.inr (.inr x0)] H70 = _
  refine Eq.trans (e1 hG PT_127 k127_328 _ _ _) ?_
  show G 127 330 [some (.inr (.inr x0)), none, none, none, none, none] [.inl 24, .inr (.inr x0)] H70 = _
  refine Eq.trans (e1 hG PT_127 k127_330 _ _ _) ?_
  refine bdc fun H71 => ?_
  show G 127 332 [some (.inr (.inr x0)), none, none, none, none, none] [.inr (.inr H70.2.1.1), .inr (.inr x0)] H71 = _
  refine Eq.trans (e1 hG PT_127 k127_332 _ _ _) ?_
  refine bdc fun H72 => ?_
  show G 127 335 [some (.inr (.inr x0)), none, none, none, none, none] [] H72 = _
  refine Eq.trans (e1 hG PT_127 k127_335 _ _ _) ?_
  show G 127 336 [some (.inr (.inr x0)), none, none, none, none, none] [.inr (.inr x0)] H72 = _
  refine Eq.trans (e1 hG PT_127 k127_336 _ _ _) ?_
  show G 127 337 [some (.inr (.inr x0)), none, none, none, none, none] [.inl 3, .inr (.inr x0)] H72 = _
  refine Eq.trans (e1 hG PT_127 k127_337 _ _ _) ?_
  refine bdc fun H73 => ?_
  show G 127 339 [some (.inr (.inr x0)), none, none, none, none, none] [.inr (.inr H72.2.1.1), .inr (.inr x0)] H73 = _
  refine Eq.trans (e1 hG PT_127 k127_339 _ _ _) ?_
  refine bdc fun H74 => ?_
  show G 127 342 [some (.inr (.inr x0)), none, none, none, none, none] [] H74 = _
  refine Eq.trans (e1 hG PT_127 k127_342 _ _ _) ?_
  show G 127 343 [some (.inr (.inr x0)), none, none, none, none, none] [.inr (.inr x0)] H74 = _
  refine Eq.trans (e1 hG PT_127 k127_343 _ _ _) ?_
  show G 127 346 [some (.inr (.inr x0)), none, none, none, none, none] [.inl 220, .inr (.inr x0)] H74 = _
  refine Eq.trans (e1 hG PT_127 k127_346 _ _ _) ?_
  refine bdc fun H75 => ?_
  show G 127 348 [some (.inr (.inr x0)), none, none, none, none, none] [.inr (.inr H74.2.1.1), .inr (.inr x0)] H75 = _
  refine Eq.trans (e1 hG PT_127 k127_348 _ _ _) ?_
  refine bdc fun H76 => ?_
  show G 127 351 [some (.inr (.inr x0)), none, none, none, none, none] [] H76 = _
  refine Eq.trans (e1 hG PT_127 k127_351 _ _ _) ?_
  show G 127 352 [some (.inr (.inr x0)), none, none, none, none, none] [.inr (.inr x0)] H76 = _
  refine Eq.trans (e1 hG PT_127 k127_352 _ _ _) ?_
  show G 127 355 [some (.inr (.inr x0)), none, none, none, none, none] [.inl 220, .inr (.inr x0)] H76 = _
  refine Eq.trans (e1 hG PT_127 k127_355 _ _ _) ?_
  refine bdc fun H77 => ?_
  show G 127 357 [some (.inr (.inr x0)), none, none, none, none, none] [.inr (.inr H76.2.1.1), .inr (.inr x0)] H77 = _
  refine Eq.trans (e1 hG PT_127 k127_357 _ _ _) ?_
  refine bdc fun H78 => ?_
  show G 127 360 [some (.inr (.inr x0)), none, none, none, none, none] [] H78 = _
  refine Eq.trans (e1 hG PT_127 k127_360 _ _ _) ?_
  show G 127 361 [some (.inr (.inr x0)), none, none, none, none, none] [.inr (.inr x0)] H78 = _
  refine Eq.trans (e1 hG PT_127 k127_361 _ _ _) ?_
  show G 127 364 [some (.inr (.inr x0)), none, none, none, none, none] [.inl 220, .inr (.inr x0)] H78 = _
  refine Eq.trans (e1 hG PT_127 k127_364 _ _ _) ?_
  refine bdc fun H79 => ?_
  show G 127 366 [some (.inr (.inr x0)), none, none, none, none, none] [.inr (.inr H78.2.1.1), .inr (.inr x0)] H79 = _
  refine Eq.trans (e1 hG PT_127 k127_366 _ _ _) ?_
  refine bdc fun H80 => ?_
  show G 127 369 [some (.inr (.inr x0)), none, none, none, none, none] [] H80 = _
  refine Eq.trans (e1 hG PT_127 k127_369 _ _ _) ?_
  show G 127 370 [some (.inr (.inr x0)), none, none, none, none, none] [.inr (.inr x0)] H80 = _
  refine Eq.trans (e1 hG PT_127 k127_370 _ _ _) ?_
  show G 127 373 [some (.inr (.inr x0)), none, none, none, none, none] [.inl 220, .inr (.inr x0)] H80 = _
  refine Eq.trans (e1 hG PT_127 k127_373 _ _ _) ?_
  refine bdc fun H81 => ?_
  show G 127 375 [some (.inr (.inr x0)), none, none, none, none, none] [.inr (.inr H80.2.1.1), .inr (.inr x0)] H81 = _
  refine Eq.trans (e1 hG PT_127 k127_375 _ _ _) ?_
  refine bdc fun H82 => ?_
  show G 127 378 [some (.inr (.inr x0)), none, none, none, none, none] [] H82 = _
  refine Eq.trans (e1 hG PT_127 k127_378 _ _ _) ?_
  show G 127 379 [some (.inr (.inr x0)), none, none, none, none, none] [.inr (.inr x0)] H82 = _
  refine Eq.trans (e1 hG PT_127 k127_379 _ _ _) ?_
  show G 127 382 [some (.inr (.inr x0)), none, none, none, none, none] [.inl 220, .inr (.inr x0)] H82 = _
  refine Eq.trans (e1 hG PT_127 k127_382 _ _ _) ?_
  refine bdc fun H83 => ?_
  show G 127 384 [some (.inr (.inr x0)), none, none, none, none, none] [.inr (.inr H82.2.1.1), .inr (.inr x0)] H83 = _
  refine Eq.trans (e1 hG PT_127 k127_384 _ _ _) ?_
  refine bdc fun H84 => ?_
  show G 127 387 [some (.inr (.inr x0)), none, none, none, none, none] [] H84 = _
  refine Eq.trans (e1 hG PT_127 k127_387 _ _ _) ?_
  show G 127 388 [some (.inr (.inr x0)), none, none, none, none, none] [.inr (.inr x0)] H84 = _
  refine Eq.trans (e1 hG PT_127 k127_388 _ _ _) ?_
  show G 127 391 [some (.inr (.inr x0)), none, none, none, none, none] [.inl 1540, .inr (.inr x0)] H84 = _
  refine Eq.trans (e1 hG PT_127 k127_391 _ _ _) ?_
  refine bdc fun H85 => ?_
  show G 127 393 [some (.inr (.inr x0)), none, none, none, none, none] [.inr (.inr H84.2.1.1), .inr (.inr x0)] H85 = _
  refine Eq.trans (e1 hG PT_127 k127_393 _ _ _) ?_
  refine bdc fun H86 => ?_
  show G 127 396 [some (.inr (.inr x0)), none, none, none, none, none] [] H86 = _
  refine Eq.trans (e1 hG PT_127 k127_396 _ _ _) ?_
  show G 127 397 [some (.inr (.inr x0)), none, none, none, none, none] [.inl 0] H86 = _
  refine Eq.trans (e1 hG PT_127 k127_397 _ _ _) ?_
  show G 127 398 [some (.inr (.inr x0)), some (.inl 0), none, none, none, none] [] H86 = _
  refine Eq.trans (e1 hG PT_127 k127_398 _ _ _) ?_
  show G 127 399 [some (.inr (.inr x0)), some (.inl 0), none, none, none, none] [.inl 0] H86 = _
  refine Eq.trans (e1 hG PT_127 k127_399 _ _ _) ?_
  rfl
theorem b127_400 {G : AG} (hG : FIX G) (x0 : Nat) (x1 : Int32) (x2 : Int32) (o3 : Option AV) (o4 : Option AV) (o5 : Option AV) (H : Hp) : G 127 400 [some (.inr (.inr x0)), some (.inl x1), some (.inl x2), o3, o4, o5] [] H = (bif decide ((7776 : Int32) ≤ (x2 : Int32)) then some (none, H) else G 127 415 [some (.inr (.inr x0)), some (.inl x1), some (.inl x2), some (.inl x2), some (.inl 0), some (.inl 0)] [] H) := by
  refine Eq.trans (e1 hG PT_127 k127_400 _ _ _) ?_
  show G 127 401 [some (.inr (.inr x0)), some (.inl x1), some (.inl x2), o3, o4, o5] [.inl x2] H = _
  refine Eq.trans (e1 hG PT_127 k127_401 _ _ _) ?_
  show G 127 404 [some (.inr (.inr x0)), some (.inl x1), some (.inl x2), o3, o4, o5] [.inl 7776, .inl x2] H = _
  refine Eq.trans (e1 hG PT_127 k127_404 _ _ _) ?_
  refine bfc ?_ ?_
  · show G 127 508 [some (.inr (.inr x0)), some (.inl x1), some (.inl x2), o3, o4, o5] [] H = _
    exact e1 hG PT_127 k127_508 _ _ _
  · show G 127 407 [some (.inr (.inr x0)), some (.inl x1), some (.inl x2), o3, o4, o5] [] H = _
    refine Eq.trans (e1 hG PT_127 k127_407 _ _ _) ?_
    show G 127 408 [some (.inr (.inr x0)), some (.inl x1), some (.inl x2), o3, o4, o5] [.inl x2] H = _
    refine Eq.trans (e1 hG PT_127 k127_408 _ _ _) ?_
    show G 127 409 [some (.inr (.inr x0)), some (.inl x1), some (.inl x2), some (.inl x2), o4, o5] [] H = _
    refine Eq.trans (e1 hG PT_127 k127_409 _ _ _) ?_
    show G 127 410 [some (.inr (.inr x0)), some (.inl x1), some (.inl x2), some (.inl x2), o4, o5] [.inl 0] H = _
    refine Eq.trans (e1 hG PT_127 k127_410 _ _ _) ?_
    show G 127 412 [some (.inr (.inr x0)), some (.inl x1), some (.inl x2), some (.inl x2), some (.inl 0), o5] [] H = _
    refine Eq.trans (e1 hG PT_127 k127_412 _ _ _) ?_
    show G 127 413 [some (.inr (.inr x0)), some (.inl x1), some (.inl x2), some (.inl x2), some (.inl 0), o5] [.inl 0] H = _
    refine Eq.trans (e1 hG PT_127 k127_413 _ _ _) ?_
    rfl
theorem b127_415 {G : AG} (hG : FIX G) (x0 : Nat) (x1 : Int32) (x2 : Int32) (x3 : Int32) (x4 : Int32) (x5 : Int32) (H : Hp) : G 127 415 [some (.inr (.inr x0)), some (.inl x1), some (.inl x2), some (.inl x3), some (.inl x4), some (.inl x5)] [] H = (bif decide ((5 : Int32) ≤ (x5 : Int32)) then (hgR H x0 62).bind fun r1 => (hSI H r1 x2 ((-1))).bind fun H2 => bif decide ((6 : Int32) ≤ (x4 : Int32)) then G 127 502 [some (.inr (.inr x0)), some (.inl x1), some (.inl x2), some (.inl x3), some (.inl x4), some (.inl x5)] [] H2 else (hgR H2 x0 62).bind fun r3 => (hSI H2 r3 x2 x1).bind fun H4 => G 127 467 [some (.inr (.inr x0)), some (.inl x1), some (.inl x2), some (.inl x2), some (.inl x4), some (.inl 0)] [] H4 else ((if (6 : Int32) = 0 then none else some (x3 - x3 / 6 * 6))).bind fun i5 => ((if (6 : Int32) = 0 then none else some (x3 / 6))).bind fun i6 => G 127 415 [some (.inr (.inr x0)), some (.inl x1), some (.inl x2), some (.inl i6), some (.inl (x4 + i5)), some (.inl (x5 + 1))] [] H) := by
  refine Eq.trans (e1 hG PT_127 k127_415 _ _ _) ?_
  show G 127 417 [some (.inr (.inr x0)), some (.inl x1), some (.inl x2), some (.inl x3), some (.inl x4), some (.inl x5)] [.inl x5] H = _
  refine Eq.trans (e1 hG PT_127 k127_417 _ _ _) ?_
  show G 127 418 [some (.inr (.inr x0)), some (.inl x1), some (.inl x2), some (.inl x3), some (.inl x4), some (.inl x5)] [.inl 5, .inl x5] H = _
  refine Eq.trans (e1 hG PT_127 k127_418 _ _ _) ?_
  refine bfc ?_ ?_
  · show G 127 441 [some (.inr (.inr x0)), some (.inl x1), some (.inl x2), some (.inl x3), some (.inl x4), some (.inl x5)] [] H = _
    refine Eq.trans (e1 hG PT_127 k127_441 _ _ _) ?_
    show G 127 442 [some (.inr (.inr x0)), some (.inl x1), some (.inl x2), some (.inl x3), some (.inl x4), some (.inl x5)] [.inr (.inr x0)] H = _
    refine Eq.trans (e1 hG PT_127 k127_442 _ _ _) ?_
    refine bdc fun r1 => ?_
    show G 127 445 [some (.inr (.inr x0)), some (.inl x1), some (.inl x2), some (.inl x3), some (.inl x4), some (.inl x5)] [.inr (.inr r1)] H = _
    refine Eq.trans (e1 hG PT_127 k127_445 _ _ _) ?_
    show G 127 446 [some (.inr (.inr x0)), some (.inl x1), some (.inl x2), some (.inl x3), some (.inl x4), some (.inl x5)] [.inl x2, .inr (.inr r1)] H = _
    refine Eq.trans (e1 hG PT_127 k127_446 _ _ _) ?_
    show G 127 447 [some (.inr (.inr x0)), some (.inl x1), some (.inl x2), some (.inl x3), some (.inl x4), some (.inl x5)] [.inl (-1), .inl x2, .inr (.inr r1)] H = _
    refine Eq.trans (e1 hG PT_127 k127_447 _ _ _) ?_
    refine bdc fun H2 => ?_
    show G 127 448 [some (.inr (.inr x0)), some (.inl x1), some (.inl x2), some (.inl x3), some (.inl x4), some (.inl x5)] [] H2 = _
    refine Eq.trans (e1 hG PT_127 k127_448 _ _ _) ?_
    show G 127 450 [some (.inr (.inr x0)), some (.inl x1), some (.inl x2), some (.inl x3), some (.inl x4), some (.inl x5)] [.inl x4] H2 = _
    refine Eq.trans (e1 hG PT_127 k127_450 _ _ _) ?_
    show G 127 452 [some (.inr (.inr x0)), some (.inl x1), some (.inl x2), some (.inl x3), some (.inl x4), some (.inl x5)] [.inl 6, .inl x4] H2 = _
    refine Eq.trans (e1 hG PT_127 k127_452 _ _ _) ?_
    refine bfc ?_ ?_
    · rfl
    · show G 127 455 [some (.inr (.inr x0)), some (.inl x1), some (.inl x2), some (.inl x3), some (.inl x4), some (.inl x5)] [] H2 = _
      refine Eq.trans (e1 hG PT_127 k127_455 _ _ _) ?_
      show G 127 456 [some (.inr (.inr x0)), some (.inl x1), some (.inl x2), some (.inl x3), some (.inl x4), some (.inl x5)] [.inr (.inr x0)] H2 = _
      refine Eq.trans (e1 hG PT_127 k127_456 _ _ _) ?_
      refine bdc fun r3 => ?_
      show G 127 459 [some (.inr (.inr x0)), some (.inl x1), some (.inl x2), some (.inl x3), some (.inl x4), some (.inl x5)] [.inr (.inr r3)] H2 = _
      refine Eq.trans (e1 hG PT_127 k127_459 _ _ _) ?_
      show G 127 460 [some (.inr (.inr x0)), some (.inl x1), some (.inl x2), some (.inl x3), some (.inl x4), some (.inl x5)] [.inl x2, .inr (.inr r3)] H2 = _
      refine Eq.trans (e1 hG PT_127 k127_460 _ _ _) ?_
      show G 127 461 [some (.inr (.inr x0)), some (.inl x1), some (.inl x2), some (.inl x3), some (.inl x4), some (.inl x5)] [.inl x1, .inl x2, .inr (.inr r3)] H2 = _
      refine Eq.trans (e1 hG PT_127 k127_461 _ _ _) ?_
      refine bdc fun H4 => ?_
      show G 127 462 [some (.inr (.inr x0)), some (.inl x1), some (.inl x2), some (.inl x3), some (.inl x4), some (.inl x5)] [] H4 = _
      refine Eq.trans (e1 hG PT_127 k127_462 _ _ _) ?_
      show G 127 463 [some (.inr (.inr x0)), some (.inl x1), some (.inl x2), some (.inl x3), some (.inl x4), some (.inl x5)] [.inl x2] H4 = _
      refine Eq.trans (e1 hG PT_127 k127_463 _ _ _) ?_
      show G 127 464 [some (.inr (.inr x0)), some (.inl x1), some (.inl x2), some (.inl x2), some (.inl x4), some (.inl x5)] [] H4 = _
      refine Eq.trans (e1 hG PT_127 k127_464 _ _ _) ?_
      show G 127 465 [some (.inr (.inr x0)), some (.inl x1), some (.inl x2), some (.inl x2), some (.inl x4), some (.inl x5)] [.inl 0] H4 = _
      refine Eq.trans (e1 hG PT_127 k127_465 _ _ _) ?_
      rfl
  · show G 127 421 [some (.inr (.inr x0)), some (.inl x1), some (.inl x2), some (.inl x3), some (.inl x4), some (.inl x5)] [] H = _
    refine Eq.trans (e1 hG PT_127 k127_421 _ _ _) ?_
    show G 127 423 [some (.inr (.inr x0)), some (.inl x1), some (.inl x2), some (.inl x3), some (.inl x4), some (.inl x5)] [.inl x4] H = _
    refine Eq.trans (e1 hG PT_127 k127_423 _ _ _) ?_
    show G 127 424 [some (.inr (.inr x0)), some (.inl x1), some (.inl x2), some (.inl x3), some (.inl x4), some (.inl x5)] [.inl x3, .inl x4] H = _
    refine Eq.trans (e1 hG PT_127 k127_424 _ _ _) ?_
    show G 127 426 [some (.inr (.inr x0)), some (.inl x1), some (.inl x2), some (.inl x3), some (.inl x4), some (.inl x5)] [.inl 6, .inl x3, .inl x4] H = _
    refine Eq.trans (e1 hG PT_127 k127_426 _ _ _) ?_
    show ((if (6 : Int32) = 0 then none else some (x3 - x3 / 6 * 6))).bind (fun i5 => G 127 427 [some (.inr (.inr x0)), some (.inl x1), some (.inl x2), some (.inl x3), some (.inl x4), some (.inl x5)] [.inl i5, .inl x4] H) = _
    refine bdc (q := (if (6 : Int32) = 0 then none else some (x3 - x3 / 6 * 6))) fun i5 => ?_
    show G 127 427 [some (.inr (.inr x0)), some (.inl x1), some (.inl x2), some (.inl x3), some (.inl x4), some (.inl x5)] [.inl i5, .inl x4] H = _
    refine Eq.trans (e1 hG PT_127 k127_427 _ _ _) ?_
    show G 127 428 [some (.inr (.inr x0)), some (.inl x1), some (.inl x2), some (.inl x3), some (.inl x4), some (.inl x5)] [.inl (x4 + i5)] H = _
    refine Eq.trans (e1 hG PT_127 k127_428 _ _ _) ?_
    show G 127 430 [some (.inr (.inr x0)), some (.inl x1), some (.inl x2), some (.inl x3), some (.inl (x4 + i5)), some (.inl x5)] [] H = _
    refine Eq.trans (e1 hG PT_127 k127_430 _ _ _) ?_
    show G 127 431 [some (.inr (.inr x0)), some (.inl x1), some (.inl x2), some (.inl x3), some (.inl (x4 + i5)), some (.inl x5)] [.inl x3] H = _
    refine Eq.trans (e1 hG PT_127 k127_431 _ _ _) ?_
    show G 127 433 [some (.inr (.inr x0)), some (.inl x1), some (.inl x2), some (.inl x3), some (.inl (x4 + i5)), some (.inl x5)] [.inl 6, .inl x3] H = _
    refine Eq.trans (e1 hG PT_127 k127_433 _ _ _) ?_
    show ((if (6 : Int32) = 0 then none else some (x3 / 6))).bind (fun i6 => G 127 434 [some (.inr (.inr x0)), some (.inl x1), some (.inl x2), some (.inl x3), some (.inl (x4 + i5)), some (.inl x5)] [.inl i6] H) = _
    refine bdc (q := (if (6 : Int32) = 0 then none else some (x3 / 6))) fun i6 => ?_
    show G 127 434 [some (.inr (.inr x0)), some (.inl x1), some (.inl x2), some (.inl x3), some (.inl (x4 + i5)), some (.inl x5)] [.inl i6] H = _
    refine Eq.trans (e1 hG PT_127 k127_434 _ _ _) ?_
    show G 127 435 [some (.inr (.inr x0)), some (.inl x1), some (.inl x2), some (.inl i6), some (.inl (x4 + i5)), some (.inl x5)] [] H = _
    refine Eq.trans (e1 hG PT_127 k127_435 _ _ _) ?_
    show G 127 438 [some (.inr (.inr x0)), some (.inl x1), some (.inl x2), some (.inl i6), some (.inl (x4 + i5)), some (.inl (x5 + 1))] [] H = _
    refine Eq.trans (e1 hG PT_127 k127_438 _ _ _) ?_
    rfl
theorem b127_467 {G : AG} (hG : FIX G) (x0 : Nat) (x1 : Int32) (x2 : Int32) (x3 : Int32) (x4 : Int32) (x5 : Int32) (H : Hp) : G 127 467 [some (.inr (.inr x0)), some (.inl x1), some (.inl x2), some (.inl x3), some (.inl x4), some (.inl x5)] [] H = (bif decide ((5 : Int32) ≤ (x5 : Int32)) then G 127 502 [some (.inr (.inr x0)), some (.inl (x1 + 1)), some (.inl x2), some (.inl x3), some (.inl x4), some (.inl x5)] [] H else (hgR H x0 61).bind fun r1 => ((if (6 : Int32) = 0 then none else some (x3 - x3 / 6 * 6))).bind fun i2 => (hSI H r1 (((5 * x1) + x5)) i2).bind fun H3 => ((if (6 : Int32) = 0 then none else some (x3 / 6))).bind fun i4 => G 127 467 [some (.inr (.inr x0)), some (.inl x1), some (.inl x2), some (.inl i4), some (.inl x4), some (.inl (x5 + 1))] [] H3) := by
  refine Eq.trans (e1 hG PT_127 k127_467 _ _ _) ?_
  show G 127 469 [some (.inr (.inr x0)), some (.inl x1), some (.inl x2), some (.inl x3), some (.inl x4), some (.inl x5)] [.inl x5] H = _
  refine Eq.trans (e1 hG PT_127 k127_469 _ _ _) ?_
  show G 127 470 [some (.inr (.inr x0)), some (.inl x1), some (.inl x2), some (.inl x3), some (.inl x4), some (.inl x5)] [.inl 5, .inl x5] H = _
  refine Eq.trans (e1 hG PT_127 k127_470 _ _ _) ?_
  refine bfc ?_ ?_
  · show G 127 499 [some (.inr (.inr x0)), some (.inl x1), some (.inl x2), some (.inl x3), some (.inl x4), some (.inl x5)] [] H = _
    refine Eq.trans (e1 hG PT_127 k127_499 _ _ _) ?_
    rfl
  · show G 127 473 [some (.inr (.inr x0)), some (.inl x1), some (.inl x2), some (.inl x3), some (.inl x4), some (.inl x5)] [] H = _
    refine Eq.trans (e1 hG PT_127 k127_473 _ _ _) ?_
    show G 127 474 [some (.inr (.inr x0)), some (.inl x1), some (.inl x2), some (.inl x3), some (.inl x4), some (.inl x5)] [.inr (.inr x0)] H = _
    refine Eq.trans (e1 hG PT_127 k127_474 _ _ _) ?_
    refine bdc fun r1 => ?_
    show G 127 477 [some (.inr (.inr x0)), some (.inl x1), some (.inl x2), some (.inl x3), some (.inl x4), some (.inl x5)] [.inr (.inr r1)] H = _
    refine Eq.trans (e1 hG PT_127 k127_477 _ _ _) ?_
    show G 127 478 [some (.inr (.inr x0)), some (.inl x1), some (.inl x2), some (.inl x3), some (.inl x4), some (.inl x5)] [.inl 5, .inr (.inr r1)] H = _
    refine Eq.trans (e1 hG PT_127 k127_478 _ _ _) ?_
    show G 127 479 [some (.inr (.inr x0)), some (.inl x1), some (.inl x2), some (.inl x3), some (.inl x4), some (.inl x5)] [.inl x1, .inl 5, .inr (.inr r1)] H = _
    refine Eq.trans (e1 hG PT_127 k127_479 _ _ _) ?_
    show G 127 480 [some (.inr (.inr x0)), some (.inl x1), some (.inl x2), some (.inl x3), some (.inl x4), some (.inl x5)] [.inl (5 * x1), .inr (.inr r1)] H = _
    refine Eq.trans (e1 hG PT_127 k127_480 _ _ _) ?_
    show G 127 482 [some (.inr (.inr x0)), some (.inl x1), some (.inl x2), some (.inl x3), some (.inl x4), some (.inl x5)] [.inl x5, .inl (5 * x1), .inr (.inr r1)] H = _
    refine Eq.trans (e1 hG PT_127 k127_482 _ _ _) ?_
    show G 127 483 [some (.inr (.inr x0)), some (.inl x1), some (.inl x2), some (.inl x3), some (.inl x4), some (.inl x5)] [.inl ((5 * x1) + x5), .inr (.inr r1)] H = _
    refine Eq.trans (e1 hG PT_127 k127_483 _ _ _) ?_
    show G 127 484 [some (.inr (.inr x0)), some (.inl x1), some (.inl x2), some (.inl x3), some (.inl x4), some (.inl x5)] [.inl x3, .inl ((5 * x1) + x5), .inr (.inr r1)] H = _
    refine Eq.trans (e1 hG PT_127 k127_484 _ _ _) ?_
    show G 127 486 [some (.inr (.inr x0)), some (.inl x1), some (.inl x2), some (.inl x3), some (.inl x4), some (.inl x5)] [.inl 6, .inl x3, .inl ((5 * x1) + x5), .inr (.inr r1)] H = _
    refine Eq.trans (e1 hG PT_127 k127_486 _ _ _) ?_
    show ((if (6 : Int32) = 0 then none else some (x3 - x3 / 6 * 6))).bind (fun i2 => G 127 487 [some (.inr (.inr x0)), some (.inl x1), some (.inl x2), some (.inl x3), some (.inl x4), some (.inl x5)] [.inl i2, .inl ((5 * x1) + x5), .inr (.inr r1)] H) = _
    refine bdc (q := (if (6 : Int32) = 0 then none else some (x3 - x3 / 6 * 6))) fun i2 => ?_
    show G 127 487 [some (.inr (.inr x0)), some (.inl x1), some (.inl x2), some (.inl x3), some (.inl x4), some (.inl x5)] [.inl i2, .inl ((5 * x1) + x5), .inr (.inr r1)] H = _
    refine Eq.trans (e1 hG PT_127 k127_487 _ _ _) ?_
    refine bdc fun H3 => ?_
    show G 127 488 [some (.inr (.inr x0)), some (.inl x1), some (.inl x2), some (.inl x3), some (.inl x4), some (.inl x5)] [] H3 = _
    refine Eq.trans (e1 hG PT_127 k127_488 _ _ _) ?_
    show G 127 489 [some (.inr (.inr x0)), some (.inl x1), some (.inl x2), some (.inl x3), some (.inl x4), some (.inl x5)] [.inl x3] H3 = _
    refine Eq.trans (e1 hG PT_127 k127_489 _ _ _) ?_
    show G 127 491 [some (.inr (.inr x0)), some (.inl x1), some (.inl x2), some (.inl x3), some (.inl x4), some (.inl x5)] [.inl 6, .inl x3] H3 = _
    refine Eq.trans (e1 hG PT_127 k127_491 _ _ _) ?_
    show ((if (6 : Int32) = 0 then none else some (x3 / 6))).bind (fun i4 => G 127 492 [some (.inr (.inr x0)), some (.inl x1), some (.inl x2), some (.inl x3), some (.inl x4), some (.inl x5)] [.inl i4] H3) = _
    refine bdc (q := (if (6 : Int32) = 0 then none else some (x3 / 6))) fun i4 => ?_
    show G 127 492 [some (.inr (.inr x0)), some (.inl x1), some (.inl x2), some (.inl x3), some (.inl x4), some (.inl x5)] [.inl i4] H3 = _
    refine Eq.trans (e1 hG PT_127 k127_492 _ _ _) ?_
    show G 127 493 [some (.inr (.inr x0)), some (.inl x1), some (.inl x2), some (.inl i4), some (.inl x4), some (.inl x5)] [] H3 = _
    refine Eq.trans (e1 hG PT_127 k127_493 _ _ _) ?_
    show G 127 496 [some (.inr (.inr x0)), some (.inl x1), some (.inl x2), some (.inl i4), some (.inl x4), some (.inl (x5 + 1))] [] H3 = _
    refine Eq.trans (e1 hG PT_127 k127_496 _ _ _) ?_
    rfl
theorem b127_502 {G : AG} (hG : FIX G) (x0 : Nat) (x1 : Int32) (x2 : Int32) (x3 : Int32) (x4 : Int32) (x5 : Int32) (H : Hp) : G 127 502 [some (.inr (.inr x0)), some (.inl x1), some (.inl x2), some (.inl x3), some (.inl x4), some (.inl x5)] [] H = (G 127 400 [some (.inr (.inr x0)), some (.inl x1), some (.inl (x2 + 1)), some (.inl x3), some (.inl x4), some (.inl x5)] [] H) := by
  refine Eq.trans (e1 hG PT_127 k127_502 _ _ _) ?_
  show G 127 505 [some (.inr (.inr x0)), some (.inl x1), some (.inl (x2 + 1)), some (.inl x3), some (.inl x4), some (.inl x5)] [] H = _
  refine Eq.trans (e1 hG PT_127 k127_505 _ _ _) ?_
  rfl
