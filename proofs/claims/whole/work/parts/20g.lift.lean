-- StepsAheadModel.sixth(I)I
theorem PT_159 : PT 159 = pt159 := rfl
theorem k159_0 : lkp pt159 0 = iP 1 (fK (.inl 1)) := rfl
theorem k159_1 : lkp pt159 1 = iP 2 (fIst 1) := rfl
theorem k159_2 : lkp pt159 2 = iP 3 (fK (.inl 0)) := rfl
theorem k159_3 : lkp pt159 3 = iP 4 (fIst 2) := rfl
theorem k159_4 : lkp pt159 4 = iP 5 (fIld 2) := rfl
theorem k159_5 : lkp pt159 5 = iP 6 (fIld 0) := rfl
theorem k159_6 : lkp pt159 6 = iB 9 20 (b2 (fun x y => decide (y ≤ x))) := rfl
theorem k159_9 : lkp pt159 9 = iP 10 (fIld 1) := rfl
theorem k159_10 : lkp pt159 10 = iP 12 (fK (.inl 6)) := rfl
theorem k159_12 : lkp pt159 12 = iP 13 (f2I (fun x y => x * y)) := rfl
theorem k159_13 : lkp pt159 13 = iP 14 (fIst 1) := rfl
theorem k159_14 : lkp pt159 14 = iP 17 (fInc 2 1) := rfl
theorem k159_17 : lkp pt159 17 = iP 4 fGo := rfl
theorem k159_20 : lkp pt159 20 = iP 21 (fIld 1) := rfl
theorem k159_21 : lkp pt159 21 = iRet rI := rfl
theorem b159_0 {G : AG} (hG : FIX G) (x0 : Int32) (H : Hp) : G 159 0 [some (.inl x0), none, none] [] H = (G 159 4 [some (.inl x0), some (.inl 1), some (.inl 0)] [] H) := by
  refine Eq.trans (e1 hG PT_159 k159_0 _ _ _) ?_
  show G 159 1 [some (.inl x0), none, none] [.inl 1] H = _
  refine Eq.trans (e1 hG PT_159 k159_1 _ _ _) ?_
  show G 159 2 [some (.inl x0), some (.inl 1), none] [] H = _
  refine Eq.trans (e1 hG PT_159 k159_2 _ _ _) ?_
  show G 159 3 [some (.inl x0), some (.inl 1), none] [.inl 0] H = _
  refine Eq.trans (e1 hG PT_159 k159_3 _ _ _) ?_
  rfl
theorem b159_4 {G : AG} (hG : FIX G) (x0 : Int32) (x1 : Int32) (x2 : Int32) (H : Hp) : G 159 4 [some (.inl x0), some (.inl x1), some (.inl x2)] [] H = (bif decide ((x0 : Int32) ≤ (x2 : Int32)) then some (some (.inl x1), H) else G 159 4 [some (.inl x0), some (.inl (x1 * 6)), some (.inl (x2 + 1))] [] H) := by
  refine Eq.trans (e1 hG PT_159 k159_4 _ _ _) ?_
  show G 159 5 [some (.inl x0), some (.inl x1), some (.inl x2)] [.inl x2] H = _
  refine Eq.trans (e1 hG PT_159 k159_5 _ _ _) ?_
  show G 159 6 [some (.inl x0), some (.inl x1), some (.inl x2)] [.inl x0, .inl x2] H = _
  refine Eq.trans (e1 hG PT_159 k159_6 _ _ _) ?_
  refine bfc ?_ ?_
  · show G 159 20 [some (.inl x0), some (.inl x1), some (.inl x2)] [] H = _
    refine Eq.trans (e1 hG PT_159 k159_20 _ _ _) ?_
    show G 159 21 [some (.inl x0), some (.inl x1), some (.inl x2)] [.inl x1] H = _
    exact e1 hG PT_159 k159_21 _ _ _
  · show G 159 9 [some (.inl x0), some (.inl x1), some (.inl x2)] [] H = _
    refine Eq.trans (e1 hG PT_159 k159_9 _ _ _) ?_
    show G 159 10 [some (.inl x0), some (.inl x1), some (.inl x2)] [.inl x1] H = _
    refine Eq.trans (e1 hG PT_159 k159_10 _ _ _) ?_
    show G 159 12 [some (.inl x0), some (.inl x1), some (.inl x2)] [.inl 6, .inl x1] H = _
    refine Eq.trans (e1 hG PT_159 k159_12 _ _ _) ?_
    show G 159 13 [some (.inl x0), some (.inl x1), some (.inl x2)] [.inl (x1 * 6)] H = _
    refine Eq.trans (e1 hG PT_159 k159_13 _ _ _) ?_
    show G 159 14 [some (.inl x0), some (.inl (x1 * 6)), some (.inl x2)] [] H = _
    refine Eq.trans (e1 hG PT_159 k159_14 _ _ _) ?_
    show G 159 17 [some (.inl x0), some (.inl (x1 * 6)), some (.inl (x2 + 1))] [] H = _
    refine Eq.trans (e1 hG PT_159 k159_17 _ _ _) ?_
    rfl
-- StepsAheadModel.code(I)I
theorem PT_160 : PT 160 = pt160 := rfl
theorem k160_0 : lkp pt160 0 = iP 1 (fK (.inl 0)) := rfl
theorem k160_1 : lkp pt160 1 = iP 2 (fIst 2) := rfl
theorem k160_2 : lkp pt160 2 = iP 3 (fK (.inl 4)) := rfl
theorem k160_3 : lkp pt160 3 = iP 4 (fIst 3) := rfl
theorem k160_4 : lkp pt160 4 = iP 5 (fIld 3) := rfl
theorem k160_5 : lkp pt160 5 = iB 8 30 (b1 (fun x => decide (x < 0))) := rfl
theorem k160_8 : lkp pt160 8 = iP 10 (fK (.inl 6)) := rfl
theorem k160_10 : lkp pt160 10 = iP 11 (fIld 2) := rfl
theorem k160_11 : lkp pt160 11 = iP 12 (f2I (fun x y => x * y)) := rfl
theorem k160_12 : lkp pt160 12 = iP 13 (fAld 0) := rfl
theorem k160_13 : lkp pt160 13 = iRR 16 (gtR 61) := rfl
theorem k160_16 : lkp pt160 16 = iP 17 (fK (.inl 5)) := rfl
theorem k160_17 : lkp pt160 17 = iP 18 (fIld 1) := rfl
theorem k160_18 : lkp pt160 18 = iP 19 (f2I (fun x y => x * y)) := rfl
theorem k160_19 : lkp pt160 19 = iP 20 (fIld 3) := rfl
theorem k160_20 : lkp pt160 20 = iP 21 (f2I (fun x y => x + y)) := rfl
theorem k160_21 : lkp pt160 21 = iRI 22 qAI := rfl
theorem k160_22 : lkp pt160 22 = iP 23 (f2I (fun x y => x + y)) := rfl
theorem k160_23 : lkp pt160 23 = iP 24 (fIst 2) := rfl
theorem k160_24 : lkp pt160 24 = iP 27 (fInc 3 (-1)) := rfl
theorem k160_27 : lkp pt160 27 = iP 4 fGo := rfl
theorem k160_30 : lkp pt160 30 = iP 31 (fIld 2) := rfl
theorem k160_31 : lkp pt160 31 = iRet rI := rfl
theorem b160_0 {G : AG} (hG : FIX G) (x0 : Nat) (x1 : Int32) (H : Hp) : G 160 0 [some (.inr (.inr x0)), some (.inl x1), none, none] [] H = (G 160 4 [some (.inr (.inr x0)), some (.inl x1), some (.inl 0), some (.inl 4)] [] H) := by
  refine Eq.trans (e1 hG PT_160 k160_0 _ _ _) ?_
  show G 160 1 [some (.inr (.inr x0)), some (.inl x1), none, none] [.inl 0] H = _
  refine Eq.trans (e1 hG PT_160 k160_1 _ _ _) ?_
  show G 160 2 [some (.inr (.inr x0)), some (.inl x1), some (.inl 0), none] [] H = _
  refine Eq.trans (e1 hG PT_160 k160_2 _ _ _) ?_
  show G 160 3 [some (.inr (.inr x0)), some (.inl x1), some (.inl 0), none] [.inl 4] H = _
  refine Eq.trans (e1 hG PT_160 k160_3 _ _ _) ?_
  rfl
theorem b160_4 {G : AG} (hG : FIX G) (x0 : Nat) (x1 : Int32) (x2 : Int32) (x3 : Int32) (H : Hp) : G 160 4 [some (.inr (.inr x0)), some (.inl x1), some (.inl x2), some (.inl x3)] [] H = (bif decide ((x3 : Int32) < 0) then some (some (.inl x2), H) else (hgR H x0 61).bind fun r1 => (hAI H r1 (((5 * x1) + x3))).bind fun i2 => G 160 4 [some (.inr (.inr x0)), some (.inl x1), some (.inl ((6 * x2) + i2)), some (.inl (x3 + (-1)))] [] H) := by
  refine Eq.trans (e1 hG PT_160 k160_4 _ _ _) ?_
  show G 160 5 [some (.inr (.inr x0)), some (.inl x1), some (.inl x2), some (.inl x3)] [.inl x3] H = _
  refine Eq.trans (e1 hG PT_160 k160_5 _ _ _) ?_
  refine bfc ?_ ?_
  · show G 160 30 [some (.inr (.inr x0)), some (.inl x1), some (.inl x2), some (.inl x3)] [] H = _
    refine Eq.trans (e1 hG PT_160 k160_30 _ _ _) ?_
    show G 160 31 [some (.inr (.inr x0)), some (.inl x1), some (.inl x2), some (.inl x3)] [.inl x2] H = _
    exact e1 hG PT_160 k160_31 _ _ _
  · show G 160 8 [some (.inr (.inr x0)), some (.inl x1), some (.inl x2), some (.inl x3)] [] H = _
    refine Eq.trans (e1 hG PT_160 k160_8 _ _ _) ?_
    show G 160 10 [some (.inr (.inr x0)), some (.inl x1), some (.inl x2), some (.inl x3)] [.inl 6] H = _
    refine Eq.trans (e1 hG PT_160 k160_10 _ _ _) ?_
    show G 160 11 [some (.inr (.inr x0)), some (.inl x1), some (.inl x2), some (.inl x3)] [.inl x2, .inl 6] H = _
    refine Eq.trans (e1 hG PT_160 k160_11 _ _ _) ?_
    show G 160 12 [some (.inr (.inr x0)), some (.inl x1), some (.inl x2), some (.inl x3)] [.inl (6 * x2)] H = _
    refine Eq.trans (e1 hG PT_160 k160_12 _ _ _) ?_
    show G 160 13 [some (.inr (.inr x0)), some (.inl x1), some (.inl x2), some (.inl x3)] [.inr (.inr x0), .inl (6 * x2)] H = _
    refine Eq.trans (e1 hG PT_160 k160_13 _ _ _) ?_
    refine bdc fun r1 => ?_
    show G 160 16 [some (.inr (.inr x0)), some (.inl x1), some (.inl x2), some (.inl x3)] [.inr (.inr r1), .inl (6 * x2)] H = _
    refine Eq.trans (e1 hG PT_160 k160_16 _ _ _) ?_
    show G 160 17 [some (.inr (.inr x0)), some (.inl x1), some (.inl x2), some (.inl x3)] [.inl 5, .inr (.inr r1), .inl (6 * x2)] H = _
    refine Eq.trans (e1 hG PT_160 k160_17 _ _ _) ?_
    show G 160 18 [some (.inr (.inr x0)), some (.inl x1), some (.inl x2), some (.inl x3)] [.inl x1, .inl 5, .inr (.inr r1), .inl (6 * x2)] H = _
    refine Eq.trans (e1 hG PT_160 k160_18 _ _ _) ?_
    show G 160 19 [some (.inr (.inr x0)), some (.inl x1), some (.inl x2), some (.inl x3)] [.inl (5 * x1), .inr (.inr r1), .inl (6 * x2)] H = _
    refine Eq.trans (e1 hG PT_160 k160_19 _ _ _) ?_
    show G 160 20 [some (.inr (.inr x0)), some (.inl x1), some (.inl x2), some (.inl x3)] [.inl x3, .inl (5 * x1), .inr (.inr r1), .inl (6 * x2)] H = _
    refine Eq.trans (e1 hG PT_160 k160_20 _ _ _) ?_
    show G 160 21 [some (.inr (.inr x0)), some (.inl x1), some (.inl x2), some (.inl x3)] [.inl ((5 * x1) + x3), .inr (.inr r1), .inl (6 * x2)] H = _
    refine Eq.trans (e1 hG PT_160 k160_21 _ _ _) ?_
    refine bdc fun i2 => ?_
    show G 160 22 [some (.inr (.inr x0)), some (.inl x1), some (.inl x2), some (.inl x3)] [.inl i2, .inl (6 * x2)] H = _
    refine Eq.trans (e1 hG PT_160 k160_22 _ _ _) ?_
    show G 160 23 [some (.inr (.inr x0)), some (.inl x1), some (.inl x2), some (.inl x3)] [.inl ((6 * x2) + i2)] H = _
    refine Eq.trans (e1 hG PT_160 k160_23 _ _ _) ?_
    show G 160 24 [some (.inr (.inr x0)), some (.inl x1), some (.inl ((6 * x2) + i2)), some (.inl x3)] [] H = _
    refine Eq.trans (e1 hG PT_160 k160_24 _ _ _) ?_
    show G 160 27 [some (.inr (.inr x0)), some (.inl x1), some (.inl ((6 * x2) + i2)), some (.inl (x3 + (-1)))] [] H = _
    refine Eq.trans (e1 hG PT_160 k160_27 _ _ _) ?_
    rfl
-- StepsAheadModel.makePowers(IIII)V
theorem PT_161 : PT 161 = pt161 := rfl
theorem k161_0 : lkp pt161 0 = iP 1 (fAld 0) := rfl
theorem k161_1 : lkp pt161 1 = iP 2 (fIld 1) := rfl
theorem k161_2 : lkp pt161 2 = iCK 5 12 155 3 2 0 := rfl
theorem k161_5 : lkp pt161 5 = iP 6 (fAld 0) := rfl
theorem k161_6 : lkp pt161 6 = iRR 9 (gtR 67) := rfl
theorem k161_9 : lkp pt161 9 = iP 12 (fK (.inl 252)) := rfl
theorem k161_12 : lkp pt161 12 = iP 13 (fIld 1) := rfl
theorem k161_13 : lkp pt161 13 = iP 14 (f2I (fun x y => x * y)) := rfl
theorem k161_14 : lkp pt161 14 = iP 15 (fK (.inr (.inl 1))) := rfl
theorem k161_15 : lkp pt161 15 = iW 16 wAJ := rfl
theorem k161_16 : lkp pt161 16 = iP 17 (fK (.inl 1)) := rfl
theorem k161_17 : lkp pt161 17 = iP 19 (fIst 5) := rfl
theorem k161_19 : lkp pt161 19 = iP 20 (fK (.inl 1)) := rfl
theorem k161_20 : lkp pt161 20 = iP 22 (fIst 6) := rfl
theorem k161_22 : lkp pt161 22 = iP 24 (fIld 6) := rfl
theorem k161_24 : lkp pt161 24 = iP 26 (fK (.inl 6)) := rfl
theorem k161_26 : lkp pt161 26 = iB 29 233 (b2 (fun x y => decide (y ≤ x))) := rfl
theorem k161_29 : lkp pt161 29 = iP 30 (fAld 0) := rfl
theorem k161_30 : lkp pt161 30 = iP 31 (fIld 1) := rfl
theorem k161_31 : lkp pt161 31 = iP 33 (fIld 6) := rfl
theorem k161_33 : lkp pt161 33 = iP 34 (f2I (fun x y => x + y)) := rfl
theorem k161_34 : lkp pt161 34 = iCK 37 12 155 3 2 0 := rfl
theorem k161_37 : lkp pt161 37 = iP 38 (fK (.inl 0)) := rfl
theorem k161_38 : lkp pt161 38 = iP 40 (fIst 7) := rfl
theorem k161_40 : lkp pt161 40 = iP 42 (fIld 7) := rfl
theorem k161_42 : lkp pt161 42 = iP 45 (fK (.inl 252)) := rfl
theorem k161_45 : lkp pt161 45 = iB 48 227 (b2 (fun x y => decide (y ≤ x))) := rfl
theorem k161_48 : lkp pt161 48 = iP 49 (fAld 0) := rfl
theorem k161_49 : lkp pt161 49 = iRR 52 (gtR 67) := rfl
theorem k161_52 : lkp pt161 52 = iP 55 (fK (.inl 252)) := rfl
theorem k161_55 : lkp pt161 55 = iP 56 (fIld 1) := rfl
theorem k161_56 : lkp pt161 56 = iP 58 (fIld 6) := rfl
theorem k161_58 : lkp pt161 58 = iP 59 (f2I (fun x y => x + y)) := rfl
theorem k161_59 : lkp pt161 59 = iP 60 (fK (.inl 1)) := rfl
theorem k161_60 : lkp pt161 60 = iP 61 (f2I (fun x y => x - y)) := rfl
theorem k161_61 : lkp pt161 61 = iP 62 (f2I (fun x y => x * y)) := rfl
theorem k161_62 : lkp pt161 62 = iP 64 (fIld 7) := rfl
theorem k161_64 : lkp pt161 64 = iP 65 (f2I (fun x y => x + y)) := rfl
theorem k161_65 : lkp pt161 65 = iRJ 66 qAJ := rfl
theorem k161_66 : lkp pt161 66 = iP 68 (fLst 8) := rfl
theorem k161_68 : lkp pt161 68 = iP 70 (fJld 8) := rfl
theorem k161_70 : lkp pt161 70 = iP 71 (fK (.inr (.inl 0))) := rfl
theorem k161_71 : lkp pt161 71 = iP 72 fLcmp := rfl
theorem k161_72 : lkp pt161 72 = iB 75 221 (b1 (fun x => decide (x = 0))) := rfl
theorem k161_75 : lkp pt161 75 = iP 76 (fAld 0) := rfl
theorem k161_76 : lkp pt161 76 = iP 78 (fIld 7) := rfl
theorem k161_78 : lkp pt161 78 = iCK 81 12 160 4 2 1 := rfl
theorem k161_81 : lkp pt161 81 = iP 83 (fIst 10) := rfl
theorem k161_83 : lkp pt161 83 = iP 84 (fK (.inl 1)) := rfl
theorem k161_84 : lkp pt161 84 = iP 86 (fIst 5) := rfl
theorem k161_86 : lkp pt161 86 = iP 87 (fAld 0) := rfl
theorem k161_87 : lkp pt161 87 = iRR 90 (gtR 67) := rfl
theorem k161_90 : lkp pt161 90 = iP 93 (fK (.inl 252)) := rfl
theorem k161_93 : lkp pt161 93 = iP 94 (fIld 1) := rfl
theorem k161_94 : lkp pt161 94 = iP 96 (fIld 6) := rfl
theorem k161_96 : lkp pt161 96 = iP 97 (f2I (fun x y => x + y)) := rfl
theorem k161_97 : lkp pt161 97 = iP 98 (f2I (fun x y => x * y)) := rfl
theorem k161_98 : lkp pt161 98 = iP 100 (fIld 7) := rfl
theorem k161_100 : lkp pt161 100 = iP 101 (f2I (fun x y => x + y)) := rfl
theorem k161_101 : lkp pt161 101 = iP 102 fDup2 := rfl
theorem k161_102 : lkp pt161 102 = iRJ 103 qAJ := rfl
theorem k161_103 : lkp pt161 103 = iP 105 (fJld 8) := rfl
theorem k161_105 : lkp pt161 105 = iP 106 (fAld 0) := rfl
theorem k161_106 : lkp pt161 106 = iRR 109 (gtR 55) := rfl
theorem k161_109 : lkp pt161 109 = iP 111 (fK (.inl 12)) := rfl
theorem k161_111 : lkp pt161 111 = iP 112 (fIld 2) := rfl
theorem k161_112 : lkp pt161 112 = iP 113 (f2I (fun x y => x * y)) := rfl
theorem k161_113 : lkp pt161 113 = iP 115 (fK (.inl 6)) := rfl
theorem k161_115 : lkp pt161 115 = iP 116 (fIld 3) := rfl
theorem k161_116 : lkp pt161 116 = iP 117 (f2I (fun x y => x * y)) := rfl
theorem k161_117 : lkp pt161 117 = iP 118 (f2I (fun x y => x + y)) := rfl
theorem k161_118 : lkp pt161 118 = iRI 119 qAI := rfl
theorem k161_119 : lkp pt161 119 = iP 120 fI2l := rfl
theorem k161_120 : lkp pt161 120 = iP 121 (f2J (fun x y => x * y)) := rfl
theorem k161_121 : lkp pt161 121 = iP 122 (f2J (fun x y => x + y)) := rfl
theorem k161_122 : lkp pt161 122 = iW 123 wAJ := rfl
theorem k161_123 : lkp pt161 123 = iP 124 (fK (.inl 0)) := rfl
theorem k161_124 : lkp pt161 124 = iP 126 (fIst 11) := rfl
theorem k161_126 : lkp pt161 126 = iP 128 (fIld 11) := rfl
theorem k161_128 : lkp pt161 128 = iP 129 (fK (.inl 2)) := rfl
theorem k161_129 : lkp pt161 129 = iP 131 (fIld 4) := rfl
theorem k161_131 : lkp pt161 131 = iP 132 (f2I (fun x y => x + y)) := rfl
theorem k161_132 : lkp pt161 132 = iB 135 221 (b2 (fun x y => decide (y ≤ x))) := rfl
theorem k161_135 : lkp pt161 135 = iP 136 (fAld 0) := rfl
theorem k161_136 : lkp pt161 136 = iP 138 (fIld 7) := rfl
theorem k161_138 : lkp pt161 138 = iCK 141 12 162 4 2 1 := rfl
theorem k161_141 : lkp pt161 141 = iP 142 (fK (.inl 5)) := rfl
theorem k161_142 : lkp pt161 142 = iB 145 158 (b2 (fun x y => decide (y ≤ x))) := rfl
theorem k161_145 : lkp pt161 145 = iP 146 (fAld 0) := rfl
theorem k161_146 : lkp pt161 146 = iRR 149 (gtR 62) := rfl
theorem k161_149 : lkp pt161 149 = iP 151 (fIld 10) := rfl
theorem k161_151 : lkp pt161 151 = iP 153 (fIld 5) := rfl
theorem k161_153 : lkp pt161 153 = iP 154 (f2I (fun x y => x + y)) := rfl
theorem k161_154 : lkp pt161 154 = iRI 155 qAI := rfl
theorem k161_155 : lkp pt161 155 = iP 159 fGo := rfl
theorem k161_158 : lkp pt161 158 = iP 159 (fK (.inl (-1))) := rfl
theorem k161_159 : lkp pt161 159 = iP 161 (fIst 12) := rfl
theorem k161_161 : lkp pt161 161 = iP 163 (fIld 12) := rfl
theorem k161_163 : lkp pt161 163 = iB 166 208 (b1 (fun x => decide (x < 0))) := rfl
theorem k161_166 : lkp pt161 166 = iP 167 (fAld 0) := rfl
theorem k161_167 : lkp pt161 167 = iRR 170 (gtR 67) := rfl
theorem k161_170 : lkp pt161 170 = iP 173 (fK (.inl 252)) := rfl
theorem k161_173 : lkp pt161 173 = iP 174 (fIld 1) := rfl
theorem k161_174 : lkp pt161 174 = iP 176 (fIld 6) := rfl
theorem k161_176 : lkp pt161 176 = iP 177 (f2I (fun x y => x + y)) := rfl
theorem k161_177 : lkp pt161 177 = iP 178 (f2I (fun x y => x * y)) := rfl
theorem k161_178 : lkp pt161 178 = iP 180 (fIld 12) := rfl
theorem k161_180 : lkp pt161 180 = iP 181 (f2I (fun x y => x + y)) := rfl
theorem k161_181 : lkp pt161 181 = iP 182 fDup2 := rfl
theorem k161_182 : lkp pt161 182 = iRJ 183 qAJ := rfl
theorem k161_183 : lkp pt161 183 = iP 185 (fJld 8) := rfl
set_option maxRecDepth 100000 in
theorem k161_185 : lkp pt161 185 = iP 186 (fAld 0) := rfl
set_option maxRecDepth 100000 in
theorem k161_186 : lkp pt161 186 = iRR 189 (gtR 55) := rfl
set_option maxRecDepth 100000 in
theorem k161_189 : lkp pt161 189 = iP 191 (fK (.inl 12)) := rfl
set_option maxRecDepth 100000 in
theorem k161_191 : lkp pt161 191 = iP 192 (fIld 2) := rfl
set_option maxRecDepth 100000 in
theorem k161_192 : lkp pt161 192 = iP 193 (f2I (fun x y => x * y)) := rfl
set_option maxRecDepth 100000 in
theorem k161_193 : lkp pt161 193 = iP 195 (fK (.inl 6)) := rfl
set_option maxRecDepth 100000 in
theorem k161_195 : lkp pt161 195 = iP 196 (fIld 3) := rfl
set_option maxRecDepth 100000 in
theorem k161_196 : lkp pt161 196 = iP 197 (f2I (fun x y => x * y)) := rfl
set_option maxRecDepth 100000 in
theorem k161_197 : lkp pt161 197 = iP 198 (f2I (fun x y => x + y)) := rfl
set_option maxRecDepth 100000 in
theorem k161_198 : lkp pt161 198 = iP 199 (fK (.inl 1)) := rfl
set_option maxRecDepth 100000 in
theorem k161_199 : lkp pt161 199 = iP 200 (f2I (fun x y => x + y)) := rfl
set_option maxRecDepth 100000 in
theorem k161_200 : lkp pt161 200 = iP 202 (fIld 11) := rfl
set_option maxRecDepth 100000 in
theorem k161_202 : lkp pt161 202 = iP 203 (f2I (fun x y => x + y)) := rfl
set_option maxRecDepth 100000 in
theorem k161_203 : lkp pt161 203 = iRI 204 qAI := rfl
set_option maxRecDepth 100000 in
theorem k161_204 : lkp pt161 204 = iP 205 fI2l := rfl
set_option maxRecDepth 100000 in
theorem k161_205 : lkp pt161 205 = iP 206 (f2J (fun x y => x * y)) := rfl
set_option maxRecDepth 100000 in
theorem k161_206 : lkp pt161 206 = iP 207 (f2J (fun x y => x + y)) := rfl
set_option maxRecDepth 100000 in
theorem k161_207 : lkp pt161 207 = iW 208 wAJ := rfl
set_option maxRecDepth 100000 in
theorem k161_208 : lkp pt161 208 = iP 210 (fIld 5) := rfl
set_option maxRecDepth 100000 in
theorem k161_210 : lkp pt161 210 = iP 212 (fK (.inl 6)) := rfl
set_option maxRecDepth 100000 in
theorem k161_212 : lkp pt161 212 = iP 213 (f2I (fun x y => x * y)) := rfl
set_option maxRecDepth 100000 in
theorem k161_213 : lkp pt161 213 = iP 215 (fIst 5) := rfl
set_option maxRecDepth 100000 in
theorem k161_215 : lkp pt161 215 = iP 218 (fInc 11 1) := rfl
set_option maxRecDepth 100000 in
theorem k161_218 : lkp pt161 218 = iP 126 fGo := rfl
set_option maxRecDepth 100000 in
theorem k161_221 : lkp pt161 221 = iP 224 (fInc 7 1) := rfl
set_option maxRecDepth 100000 in
theorem k161_224 : lkp pt161 224 = iP 40 fGo := rfl
set_option maxRecDepth 100000 in
theorem k161_227 : lkp pt161 227 = iP 230 (fInc 6 1) := rfl
set_option maxRecDepth 100000 in
theorem k161_230 : lkp pt161 230 = iP 22 fGo := rfl
set_option maxRecDepth 100000 in
theorem k161_233 : lkp pt161 233 = iRet rV := rfl
set_option maxRecDepth 100000 in
theorem b161_0 {G : AG} (hG : FIX G) (x0 : Nat) (x1 : Int32) (x2 : Int32) (x3 : Int32) (x4 : Int32) (H : Hp) : G 161 0 [some (.inr (.inr x0)), some (.inl x1), some (.inl x2), some (.inl x3), some (.inl x4), none, none, none, none, none, none, none, none] [] H = (bif Nat.beq (H.1 x0).1 12 then (G 155 0 [some (.inr (.inr x0)), some (.inl x1), none] [] H).bind fun u1 => (asV u1.1).bind fun _ => (hgR u1.2 x0 67).bind fun r2 => (hSJ u1.2 r2 ((252 * x1)) 1).bind fun H3 => G 161 22 [some (.inr (.inr x0)), some (.inl x1), some (.inl x2), some (.inl x3), some (.inl x4), some (.inl 1), some (.inl 1), none, none, none, none, none, none] [] H3 else none) := by
  refine Eq.trans (e1 hG PT_161 k161_0 _ _ _) ?_
  show G 161 1 [some (.inr (.inr x0)), some (.inl x1), some (.inl x2), some (.inl x3), some (.inl x4), none, none, none, none, none, none, none, none] [.inr (.inr x0)] H = _
  refine Eq.trans (e1 hG PT_161 k161_1 _ _ _) ?_
  show G 161 2 [some (.inr (.inr x0)), some (.inl x1), some (.inl x2), some (.inl x3), some (.inl x4), none, none, none, none, none, none, none, none] [.inl x1, .inr (.inr x0)] H = _
  refine Eq.trans (e1 hG PT_161 k161_2 _ _ _) ?_
  refine bfc ?_ ?_
  · refine bdc fun u1 => ?_
    refine bdc fun _ => ?_
    show G 161 5 [some (.inr (.inr x0)), some (.inl x1), some (.inl x2), some (.inl x3), some (.inl x4), none, none, none, none, none, none, none, none] [] u1.2 = _
    refine Eq.trans (e1 hG PT_161 k161_5 _ _ _) ?_
    show G 161 6 [some (.inr (.inr x0)), some (.inl x1), some (.inl x2), some (.inl x3), some (.inl x4), none, none, none, none, none, none, none, none] [.inr (.inr x0)] u1.2 = _
    refine Eq.trans (e1 hG PT_161 k161_6 _ _ _) ?_
    refine bdc fun r2 => ?_
    show G 161 9 [some (.inr (.inr x0)), some (.inl x1), some (.inl x2), some (.inl x3), some (.inl x4), none, none, none, none, none, none, none, none] [.inr (.inr r2)] u1.2 = _
    refine Eq.trans (e1 hG PT_161 k161_9 _ _ _) ?_
    show G 161 12 [some (.inr (.inr x0)), some (.inl x1), some (.inl x2), some (.inl x3), some (.inl x4), none, none, none, none, none, none, none, none] [.inl 252, .inr (.inr r2)] u1.2 = _
    refine Eq.trans (e1 hG PT_161 k161_12 _ _ _) ?_
    show G 161 13 [some (.inr (.inr x0)), some (.inl x1), some (.inl x2), some (.inl x3), some (.inl x4), none, none, none, none, none, none, none, none] [.inl x1, .inl 252, .inr (.inr r2)] u1.2 = _
    refine Eq.trans (e1 hG PT_161 k161_13 _ _ _) ?_
    show G 161 14 [some (.inr (.inr x0)), some (.inl x1), some (.inl x2), some (.inl x3), some (.inl x4), none, none, none, none, none, none, none, none] [.inl (252 * x1), .inr (.inr r2)] u1.2 = _
    refine Eq.trans (e1 hG PT_161 k161_14 _ _ _) ?_
    show G 161 15 [some (.inr (.inr x0)), some (.inl x1), some (.inl x2), some (.inl x3), some (.inl x4), none, none, none, none, none, none, none, none] [.inr (.inl 1), .inl (252 * x1), .inr (.inr r2)] u1.2 = _
    refine Eq.trans (e1 hG PT_161 k161_15 _ _ _) ?_
    refine bdc fun H3 => ?_
    show G 161 16 [some (.inr (.inr x0)), some (.inl x1), some (.inl x2), some (.inl x3), some (.inl x4), none, none, none, none, none, none, none, none] [] H3 = _
    refine Eq.trans (e1 hG PT_161 k161_16 _ _ _) ?_
    show G 161 17 [some (.inr (.inr x0)), some (.inl x1), some (.inl x2), some (.inl x3), some (.inl x4), none, none, none, none, none, none, none, none] [.inl 1] H3 = _
    refine Eq.trans (e1 hG PT_161 k161_17 _ _ _) ?_
    show G 161 19 [some (.inr (.inr x0)), some (.inl x1), some (.inl x2), some (.inl x3), some (.inl x4), some (.inl 1), none, none, none, none, none, none, none] [] H3 = _
    refine Eq.trans (e1 hG PT_161 k161_19 _ _ _) ?_
    show G 161 20 [some (.inr (.inr x0)), some (.inl x1), some (.inl x2), some (.inl x3), some (.inl x4), some (.inl 1), none, none, none, none, none, none, none] [.inl 1] H3 = _
    refine Eq.trans (e1 hG PT_161 k161_20 _ _ _) ?_
    rfl
  · rfl
set_option maxRecDepth 100000 in
theorem b161_22 {G : AG} (hG : FIX G) (x0 : Nat) (x1 : Int32) (x2 : Int32) (x3 : Int32) (x4 : Int32) (x5 : Int32) (x6 : Int32) (o7 : Option AV) (o8 : Option AV) (o10 : Option AV) (o11 : Option AV) (o12 : Option AV) (H : Hp) : G 161 22 [some (.inr (.inr x0)), some (.inl x1), some (.inl x2), some (.inl x3), some (.inl x4), some (.inl x5), some (.inl x6), o7, o8, none, o10, o11, o12] [] H = (bif decide ((6 : Int32) ≤ (x6 : Int32)) then some (none, H) else bif Nat.beq (H.1 x0).1 12 then (G 155 0 [some (.inr (.inr x0)), some (.inl ((x1 + x6))), none] [] H).bind fun u1 => (asV u1.1).bind fun _ => G 161 40 [some (.inr (.inr x0)), some (.inl x1), some (.inl x2), some (.inl x3), some (.inl x4), some (.inl x5), some (.inl x6), some (.inl 0), o8, none, o10, o11, o12] [] u1.2 else none) := by
  refine Eq.trans (e1 hG PT_161 k161_22 _ _ _) ?_
  show G 161 24 [some (.inr (.inr x0)), some (.inl x1), some (.inl x2), some (.inl x3), some (.inl x4), some (.inl x5), some (.inl x6), o7, o8, none, o10, o11, o12] [.inl x6] H = _
  refine Eq.trans (e1 hG PT_161 k161_24 _ _ _) ?_
  show G 161 26 [some (.inr (.inr x0)), some (.inl x1), some (.inl x2), some (.inl x3), some (.inl x4), some (.inl x5), some (.inl x6), o7, o8, none, o10, o11, o12] [.inl 6, .inl x6] H = _
  refine Eq.trans (e1 hG PT_161 k161_26 _ _ _) ?_
  refine bfc ?_ ?_
  · show G 161 233 [some (.inr (.inr x0)), some (.inl x1), some (.inl x2), some (.inl x3), some (.inl x4), some (.inl x5), some (.inl x6), o7, o8, none, o10, o11, o12] [] H = _
    exact e1 hG PT_161 k161_233 _ _ _
  · show G 161 29 [some (.inr (.inr x0)), some (.inl x1), some (.inl x2), some (.inl x3), some (.inl x4), some (.inl x5), some (.inl x6), o7, o8, none, o10, o11, o12] [] H = _
    refine Eq.trans (e1 hG PT_161 k161_29 _ _ _) ?_
    show G 161 30 [some (.inr (.inr x0)), some (.inl x1), some (.inl x2), some (.inl x3), some (.inl x4), some (.inl x5), some (.inl x6), o7, o8, none, o10, o11, o12] [.inr (.inr x0)] H = _
    refine Eq.trans (e1 hG PT_161 k161_30 _ _ _) ?_
    show G 161 31 [some (.inr (.inr x0)), some (.inl x1), some (.inl x2), some (.inl x3), some (.inl x4), some (.inl x5), some (.inl x6), o7, o8, none, o10, o11, o12] [.inl x1, .inr (.inr x0)] H = _
    refine Eq.trans (e1 hG PT_161 k161_31 _ _ _) ?_
    show G 161 33 [some (.inr (.inr x0)), some (.inl x1), some (.inl x2), some (.inl x3), some (.inl x4), some (.inl x5), some (.inl x6), o7, o8, none, o10, o11, o12] [.inl x6, .inl x1, .inr (.inr x0)] H = _
    refine Eq.trans (e1 hG PT_161 k161_33 _ _ _) ?_
    show G 161 34 [some (.inr (.inr x0)), some (.inl x1), some (.inl x2), some (.inl x3), some (.inl x4), some (.inl x5), some (.inl x6), o7, o8, none, o10, o11, o12] [.inl (x1 + x6), .inr (.inr x0)] H = _
    refine Eq.trans (e1 hG PT_161 k161_34 _ _ _) ?_
    refine bfc ?_ ?_
    · refine bdc fun u1 => ?_
      refine bdc fun _ => ?_
      show G 161 37 [some (.inr (.inr x0)), some (.inl x1), some (.inl x2), some (.inl x3), some (.inl x4), some (.inl x5), some (.inl x6), o7, o8, none, o10, o11, o12] [] u1.2 = _
      refine Eq.trans (e1 hG PT_161 k161_37 _ _ _) ?_
      show G 161 38 [some (.inr (.inr x0)), some (.inl x1), some (.inl x2), some (.inl x3), some (.inl x4), some (.inl x5), some (.inl x6), o7, o8, none, o10, o11, o12] [.inl 0] u1.2 = _
      refine Eq.trans (e1 hG PT_161 k161_38 _ _ _) ?_
      rfl
    · rfl
set_option maxRecDepth 100000 in
theorem b161_40 {G : AG} (hG : FIX G) (x0 : Nat) (x1 : Int32) (x2 : Int32) (x3 : Int32) (x4 : Int32) (x5 : Int32) (x6 : Int32) (x7 : Int32) (o8 : Option AV) (o10 : Option AV) (o11 : Option AV) (o12 : Option AV) (H : Hp) : G 161 40 [some (.inr (.inr x0)), some (.inl x1), some (.inl x2), some (.inl x3), some (.inl x4), some (.inl x5), some (.inl x6), some (.inl x7), o8, none, o10, o11, o12] [] H = (bif decide ((252 : Int32) ≤ (x7 : Int32)) then G 161 22 [some (.inr (.inr x0)), some (.inl x1), some (.inl x2), some (.inl x3), some (.inl x4), some (.inl x5), some (.inl (x6 + 1)), some (.inl x7), o8, none, o10, o11, o12] [] H else (hgR H x0 67).bind fun r1 => (hAJ H r1 (((252 * ((x1 + x6) - 1)) + x7))).bind fun j2 => bif decide (((lg_cmp j2 0) : Int32) = 0) then G 161 221 [some (.inr (.inr x0)), some (.inl x1), some (.inl x2), some (.inl x3), some (.inl x4), some (.inl x5), some (.inl x6), some (.inl x7), some (.inr (.inl j2)), none, o10, o11, o12] [] H else bif Nat.beq (H.1 x0).1 12 then (G 160 0 [some (.inr (.inr x0)), some (.inl x7), none, none] [] H).bind fun u3 => (asI u3.1).bind fun i4 => (hgR u3.2 x0 67).bind fun r5 => (hAJ u3.2 r5 (((252 * (x1 + x6)) + x7))).bind fun j6 => (hgR u3.2 x0 55).bind fun r7 => (hAI u3.2 r7 (((12 * x2) + (6 * x3)))).bind fun i8 => (hSJ u3.2 r5 (((252 * (x1 + x6)) + x7)) ((j6 + (j2 * i8.toInt64)))).bind fun H9 => G 161 126 [some (.inr (.inr x0)), some (.inl x1), some (.inl x2), some (.inl x3), some (.inl x4), some (.inl 1), some (.inl x6), some (.inl x7), some (.inr (.inl j2)), none, some (.inl i4), some (.inl 0), o12] [] H9 else none) := by
  refine Eq.trans (e1 hG PT_161 k161_40 _ _ _) ?_
  show G 161 42 [some (.inr (.inr x0)), some (.inl x1), some (.inl x2), some (.inl x3), some (.inl x4), some (.inl x5), some (.inl x6), some (.inl x7), o8, none, o10, o11, o12] [.inl x7] H = _
  refine Eq.trans (e1 hG PT_161 k161_42 _ _ _) ?_
  show G 161 45 [some (.inr (.inr x0)), some (.inl x1), some (.inl x2), some (.inl x3), some (.inl x4), some (.inl x5), some (.inl x6), some (.inl x7), o8, none, o10, o11, o12] [.inl 252, .inl x7] H = _
  refine Eq.trans (e1 hG PT_161 k161_45 _ _ _) ?_
  refine bfc ?_ ?_
  · show G 161 227 [some (.inr (.inr x0)), some (.inl x1), some (.inl x2), some (.inl x3), some (.inl x4), some (.inl x5), some (.inl x6), some (.inl x7), o8, none, o10, o11, o12] [] H = _
    refine Eq.trans (e1 hG PT_161 k161_227 _ _ _) ?_
    show G 161 230 [some (.inr (.inr x0)), some (.inl x1), some (.inl x2), some (.inl x3), some (.inl x4), some (.inl x5), some (.inl (x6 + 1)), some (.inl x7), o8, none, o10, o11, o12] [] H = _
    refine Eq.trans (e1 hG PT_161 k161_230 _ _ _) ?_
    rfl
  · show G 161 48 [some (.inr (.inr x0)), some (.inl x1), some (.inl x2), some (.inl x3), some (.inl x4), some (.inl x5), some (.inl x6), some (.inl x7), o8, none, o10, o11, o12] [] H = _
    refine Eq.trans (e1 hG PT_161 k161_48 _ _ _) ?_
    show G 161 49 [some (.inr (.inr x0)), some (.inl x1), some (.inl x2), some (.inl x3), some (.inl x4), some (.inl x5), some (.inl x6), some (.inl x7), o8, none, o10, o11, o12] [.inr (.inr x0)] H = _
    refine Eq.trans (e1 hG PT_161 k161_49 _ _ _) ?_
    refine bdc fun r1 => ?_
    show G 161 52 [some (.inr (.inr x0)), some (.inl x1), some (.inl x2), some (.inl x3), some (.inl x4), some (.inl x5), some (.inl x6), some (.inl x7), o8, none, o10, o11, o12] [.inr (.inr r1)] H = _
    refine Eq.trans (e1 hG PT_161 k161_52 _ _ _) ?_
    show G 161 55 [some (.inr (.inr x0)), some (.inl x1), some (.inl x2), some (.inl x3), some (.inl x4), some (.inl x5), some (.inl x6), some (.inl x7), o8, none, o10, o11, o12] [.inl 252, .inr (.inr r1)] H = _
    refine Eq.trans (e1 hG PT_161 k161_55 _ _ _) ?_
    show G 161 56 [some (.inr (.inr x0)), some (.inl x1), some (.inl x2), some (.inl x3), some (.inl x4), some (.inl x5), some (.inl x6), some (.inl x7), o8, none, o10, o11, o12] [.inl x1, .inl 252, .inr (.inr r1)] H = _
    refine Eq.trans (e1 hG PT_161 k161_56 _ _ _) ?_
    show G 161 58 [some (.inr (.inr x0)), some (.inl x1), some (.inl x2), some (.inl x3), some (.inl x4), some (.inl x5), some (.inl x6), some (.inl x7), o8, none, o10, o11, o12] [.inl x6, .inl x1, .inl 252, .inr (.inr r1)] H = _
    refine Eq.trans (e1 hG PT_161 k161_58 _ _ _) ?_
    show G 161 59 [some (.inr (.inr x0)), some (.inl x1), some (.inl x2), some (.inl x3), some (.inl x4), some (.inl x5), some (.inl x6), some (.inl x7), o8, none, o10, o11, o12] [.inl (x1 + x6), .inl 252, .inr (.inr r1)] H = _
    refine Eq.trans (e1 hG PT_161 k161_59 _ _ _) ?_
    show G 161 60 [some (.inr (.inr x0)), some (.inl x1), some (.inl x2), some (.inl x3), some (.inl x4), some (.inl x5), some (.inl x6), some (.inl x7), o8, none, o10, o11, o12] [.inl 1, .inl (x1 + x6), .inl 252, .inr (.inr r1)] H = _
    refine Eq.trans (e1 hG PT_161 k161_60 _ _ _) ?_
    show G 161 61 [some (.inr (.inr x0)), some (.inl x1), some (.inl x2), some (.inl x3), some (.inl x4), some (.inl x5), some (.inl x6), some (.inl x7), o8, none, o10, o11, o12] [.inl ((x1 + x6) - 1), .inl 252, .inr (.inr r1)] H = _
    refine Eq.trans (e1 hG PT_161 k161_61 _ _ _) ?_
    show G 161 62 [some (.inr (.inr x0)), some (.inl x1), some (.inl x2), some (.inl x3), some (.inl x4), some (.inl x5), some (.inl x6), some (.inl x7), o8, none, o10, o11, o12] [.inl (252 * ((x1 + x6) - 1)), .inr (.inr r1)] H = _
    refine Eq.trans (e1 hG PT_161 k161_62 _ _ _) ?_
    show G 161 64 [some (.inr (.inr x0)), some (.inl x1), some (.inl x2), some (.inl x3), some (.inl x4), some (.inl x5), some (.inl x6), some (.inl x7), o8, none, o10, o11, o12] [.inl x7, .inl (252 * ((x1 + x6) - 1)), .inr (.inr r1)] H = _
    refine Eq.trans (e1 hG PT_161 k161_64 _ _ _) ?_
    show G 161 65 [some (.inr (.inr x0)), some (.inl x1), some (.inl x2), some (.inl x3), some (.inl x4), some (.inl x5), some (.inl x6), some (.inl x7), o8, none, o10, o11, o12] [.inl ((252 * ((x1 + x6) - 1)) + x7), .inr (.inr r1)] H = _
    refine Eq.trans (e1 hG PT_161 k161_65 _ _ _) ?_
    refine bdc fun j2 => ?_
    show G 161 66 [some (.inr (.inr x0)), some (.inl x1), some (.inl x2), some (.inl x3), some (.inl x4), some (.inl x5), some (.inl x6), some (.inl x7), o8, none, o10, o11, o12] [.inr (.inl j2)] H = _
    refine Eq.trans (e1 hG PT_161 k161_66 _ _ _) ?_
    show G 161 68 [some (.inr (.inr x0)), some (.inl x1), some (.inl x2), some (.inl x3), some (.inl x4), some (.inl x5), some (.inl x6), some (.inl x7), some (.inr (.inl j2)), none, o10, o11, o12] [] H = _
    refine Eq.trans (e1 hG PT_161 k161_68 _ _ _) ?_
    show G 161 70 [some (.inr (.inr x0)), some (.inl x1), some (.inl x2), some (.inl x3), some (.inl x4), some (.inl x5), some (.inl x6), some (.inl x7), some (.inr (.inl j2)), none, o10, o11, o12] [.inr (.inl j2)] H = _
    refine Eq.trans (e1 hG PT_161 k161_70 _ _ _) ?_
    show G 161 71 [some (.inr (.inr x0)), some (.inl x1), some (.inl x2), some (.inl x3), some (.inl x4), some (.inl x5), some (.inl x6), some (.inl x7), some (.inr (.inl j2)), none, o10, o11, o12] [.inr (.inl 0), .inr (.inl j2)] H = _
    refine Eq.trans (e1 hG PT_161 k161_71 _ _ _) ?_
    show G 161 72 [some (.inr (.inr x0)), some (.inl x1), some (.inl x2), some (.inl x3), some (.inl x4), some (.inl x5), some (.inl x6), some (.inl x7), some (.inr (.inl j2)), none, o10, o11, o12] [.inl (lg_cmp j2 0)] H = _
    refine Eq.trans (e1 hG PT_161 k161_72 _ _ _) ?_
    refine bfc ?_ ?_
    · rfl
    · show G 161 75 [some (.inr (.inr x0)), some (.inl x1), some (.inl x2), some (.inl x3), some (.inl x4), some (.inl x5), some (.inl x6), some (.inl x7), some (.inr (.inl j2)), none, o10, o11, o12] [] H = _
      refine Eq.trans (e1 hG PT_161 k161_75 _ _ _) ?_
      show G 161 76 [some (.inr (.inr x0)), some (.inl x1), some (.inl x2), some (.inl x3), some (.inl x4), some (.inl x5), some (.inl x6), some (.inl x7), some (.inr (.inl j2)), none, o10, o11, o12] [.inr (.inr x0)] H = _
      refine Eq.trans (e1 hG PT_161 k161_76 _ _ _) ?_
      show G 161 78 [some (.inr (.inr x0)), some (.inl x1), some (.inl x2), some (.inl x3), some (.inl x4), some (.inl x5), some (.inl x6), some (.inl x7), some (.inr (.inl j2)), none, o10, o11, o12] [.inl x7, .inr (.inr x0)] H = _
      refine Eq.trans (e1 hG PT_161 k161_78 _ _ _) ?_
      refine bfc ?_ ?_
      · refine bdc fun u3 => ?_
        refine bdc fun i4 => ?_
        show G 161 81 [some (.inr (.inr x0)), some (.inl x1), some (.inl x2), some (.inl x3), some (.inl x4), some (.inl x5), some (.inl x6), some (.inl x7), some (.inr (.inl j2)), none, o10, o11, o12] [.inl i4] u3.2 = _
        refine Eq.trans (e1 hG PT_161 k161_81 _ _ _) ?_
        show G 161 83 [some (.inr (.inr x0)), some (.inl x1), some (.inl x2), some (.inl x3), some (.inl x4), some (.inl x5), some (.inl x6), some (.inl x7), some (.inr (.inl j2)), none, some (.inl i4), o11, o12] [] u3.2 = _
        refine Eq.trans (e1 hG PT_161 k161_83 _ _ _) ?_
        show G 161 84 [some (.inr (.inr x0)), some (.inl x1), some (.inl x2), some (.inl x3), some (.inl x4), some (.inl x5), some (.inl x6), some (.inl x7), some (.inr (.inl j2)), none, some (.inl i4), o11, o12] [.inl 1] u3.2 = _
        refine Eq.trans (e1 hG PT_161 k161_84 _ _ _) ?_
        show G 161 86 [some (.inr (.inr x0)), some (.inl x1), some (.inl x2), some (.inl x3), some (.inl x4), some (.inl 1), some (.inl x6), some (.inl x7), some (.inr (.inl j2)), none, some (.inl i4), o11, o12] [] u3.2 = _
        refine Eq.trans (e1 hG PT_161 k161_86 _ _ _) ?_
        show G 161 87 [some (.inr (.inr x0)), some (.inl x1), some (.inl x2), some (.inl x3), some (.inl x4), some (.inl 1), some (.inl x6), some (.inl x7), some (.inr (.inl j2)), none, some (.inl i4), o11, o12] [.inr (.inr x0)] u3.2 = _
        refine Eq.trans (e1 hG PT_161 k161_87 _ _ _) ?_
        refine bdc fun r5 => ?_
        show G 161 90 [some (.inr (.inr x0)), some (.inl x1), some (.inl x2), some (.inl x3), some (.inl x4), some (.inl 1), some (.inl x6), some (.inl x7), some (.inr (.inl j2)), none, some (.inl i4), o11, o12] [.inr (.inr r5)] u3.2 = _
        refine Eq.trans (e1 hG PT_161 k161_90 _ _ _) ?_
        show G 161 93 [some (.inr (.inr x0)), some (.inl x1), some (.inl x2), some (.inl x3), some (.inl x4), some (.inl 1), some (.inl x6), some (.inl x7), some (.inr (.inl j2)), none, some (.inl i4), o11, o12] [.inl 252, .inr (.inr r5)] u3.2 = _
        refine Eq.trans (e1 hG PT_161 k161_93 _ _ _) ?_
        show G 161 94 [some (.inr (.inr x0)), some (.inl x1), some (.inl x2), some (.inl x3), some (.inl x4), some (.inl 1), some (.inl x6), some (.inl x7), some (.inr (.inl j2)), none, some (.inl i4), o11, o12] [.inl x1, .inl 252, .inr (.inr r5)] u3.2 = _
        refine Eq.trans (e1 hG PT_161 k161_94 _ _ _) ?_
        show G 161 96 [some (.inr (.inr x0)), some (.inl x1), some (.inl x2), some (.inl x3), some (.inl x4), some (.inl 1), some (.inl x6), some (.inl x7), some (.inr (.inl j2)), none, some (.inl i4), o11, o12] [.inl x6, .inl x1, .inl 252, .inr (.inr r5)] u3.2 = _
        refine Eq.trans (e1 hG PT_161 k161_96 _ _ _) ?_
        show G 161 97 [some (.inr (.inr x0)), some (.inl x1), some (.inl x2), some (.inl x3), some (.inl x4), some (.inl 1), some (.inl x6), some (.inl x7), some (.inr (.inl j2)), none, some (.inl i4), o11, o12] [.inl (x1 + x6), .inl 252, .inr (.inr r5)] u3.2 = _
        refine Eq.trans (e1 hG PT_161 k161_97 _ _ _) ?_
        show G 161 98 [some (.inr (.inr x0)), some (.inl x1), some (.inl x2), some (.inl x3), some (.inl x4), some (.inl 1), some (.inl x6), some (.inl x7), some (.inr (.inl j2)), none, some (.inl i4), o11, o12] [.inl (252 * (x1 + x6)), .inr (.inr r5)] u3.2 = _
        refine Eq.trans (e1 hG PT_161 k161_98 _ _ _) ?_
        show G 161 100 [some (.inr (.inr x0)), some (.inl x1), some (.inl x2), some (.inl x3), some (.inl x4), some (.inl 1), some (.inl x6), some (.inl x7), some (.inr (.inl j2)), none, some (.inl i4), o11, o12] [.inl x7, .inl (252 * (x1 + x6)), .inr (.inr r5)] u3.2 = _
        refine Eq.trans (e1 hG PT_161 k161_100 _ _ _) ?_
        show G 161 101 [some (.inr (.inr x0)), some (.inl x1), some (.inl x2), some (.inl x3), some (.inl x4), some (.inl 1), some (.inl x6), some (.inl x7), some (.inr (.inl j2)), none, some (.inl i4), o11, o12] [.inl ((252 * (x1 + x6)) + x7), .inr (.inr r5)] u3.2 = _
        refine Eq.trans (e1 hG PT_161 k161_101 _ _ _) ?_
        show G 161 102 [some (.inr (.inr x0)), some (.inl x1), some (.inl x2), some (.inl x3), some (.inl x4), some (.inl 1), some (.inl x6), some (.inl x7), some (.inr (.inl j2)), none, some (.inl i4), o11, o12] [.inl ((252 * (x1 + x6)) + x7), .inr (.inr r5), .inl ((252 * (x1 + x6)) + x7), .inr (.inr r5)] u3.2 = _
        refine Eq.trans (e1 hG PT_161 k161_102 _ _ _) ?_
        refine bdc fun j6 => ?_
        show G 161 103 [some (.inr (.inr x0)), some (.inl x1), some (.inl x2), some (.inl x3), some (.inl x4), some (.inl 1), some (.inl x6), some (.inl x7), some (.inr (.inl j2)), none, some (.inl i4), o11, o12] [.inr (.inl j6), .inl ((252 * (x1 + x6)) + x7), .inr (.inr r5)] u3.2 = _
        refine Eq.trans (e1 hG PT_161 k161_103 _ _ _) ?_
        show G 161 105 [some (.inr (.inr x0)), some (.inl x1), some (.inl x2), some (.inl x3), some (.inl x4), some (.inl 1), some (.inl x6), some (.inl x7), some (.inr (.inl j2)), none, some (.inl i4), o11, o12] [.inr (.inl j2), .inr (.inl j6), .inl ((252 * (x1 + x6)) + x7), .inr (.inr r5)] u3.2 = _
        refine Eq.trans (e1 hG PT_161 k161_105 _ _ _) ?_
        show G 161 106 [some (.inr (.inr x0)), some (.inl x1), some (.inl x2), some (.inl x3), some (.inl x4), some (.inl 1), some (.inl x6), some (.inl x7), some (.inr (.inl j2)), none, some (.inl i4), o11, o12] [.inr (.inr x0), .inr (.inl j2), .inr (.inl j6), .inl ((252 * (x1 + x6)) + x7), .inr (.inr r5)] u3.2 = _
        refine Eq.trans (e1 hG PT_161 k161_106 _ _ _) ?_
        refine bdc fun r7 => ?_
        show G 161 109 [some (.inr (.inr x0)), some (.inl x1), some (.inl x2), some (.inl x3), some (.inl x4), some (.inl 1), some (.inl x6), some (.inl x7), some (.inr (.inl j2)), none, some (.inl i4), o11, o12] [.inr (.inr r7), .inr (.inl j2), .inr (.inl j6), .inl ((252 * (x1 + x6)) + x7), .inr (.inr r5)] u3.2 = _
        refine Eq.trans (e1 hG PT_161 k161_109 _ _ _) ?_
        show G 161 111 [some (.inr (.inr x0)), some (.inl x1), some (.inl x2), some (.inl x3), some (.inl x4), some (.inl 1), some (.inl x6), some (.inl x7), some (.inr (.inl j2)), none, some (.inl i4), o11, o12] [.inl 12, .inr (.inr r7), .inr (.inl j2), .inr (.inl j6), .inl ((252 * (x1 + x6)) + x7), .inr (.inr r5)] u3.2 = _
        refine Eq.trans (e1 hG PT_161 k161_111 _ _ _) ?_
        show G 161 112 [some (.inr (.inr x0)), some (.inl x1), some (.inl x2), some (.inl x3), some (.inl x4), some (.inl 1), some (.inl x6), some (.inl x7), some (.inr (.inl j2)), none, some (.inl i4), o11, o12] [.inl x2, .inl 12, .inr (.inr r7), .inr (.inl j2), .inr (.inl j6), .inl ((252 * (x1 + x6)) + x7), .inr (.inr r5)] u3.2 = _
        refine Eq.trans (e1 hG PT_161 k161_112 _ _ _) ?_
        show G 161 113 [some (.inr (.inr x0)), some (.inl x1), some (.inl x2), some (.inl x3), some (.inl x4), some (.inl 1), some (.inl x6), some (.inl x7), some (.inr (.inl j2)), none, some (.inl i4), o11, o12] [.inl (12 * x2), .inr (.inr r7), .inr (.inl j2), .inr (.inl j6), .inl ((252 * (x1 + x6)) + x7), .inr (.inr r5)] u3.2 = _
        refine Eq.trans (e1 hG PT_161 k161_113 _ _ _) ?_
        show G 161 115 [some (.inr (.inr x0)), some (.inl x1), some (.inl x2), some (.inl x3), some (.inl x4), some (.inl 1), some (.inl x6), some (.inl x7), some (.inr (.inl j2)), none, some (.inl i4), o11, o12] [.inl 6, .inl (12 * x2), .inr (.inr r7), .inr (.inl j2), .inr (.inl j6), .inl ((252 * (x1 + x6)) + x7), .inr (.inr r5)] u3.2 = _
        refine Eq.trans (e1 hG PT_161 k161_115 _ _ _) ?_
        show G 161 116 [some (.inr (.inr x0)), some (.inl x1), some (.inl x2), some (.inl x3), some (.inl x4), some (.inl 1), some (.inl x6), some (.inl x7), some (.inr (.inl j2)), none, some (.inl i4), o11, o12] [.inl x3, .inl 6, .inl (12 * x2), .inr (.inr r7), .inr (.inl j2), .inr (.inl j6), .inl ((252 * (x1 + x6)) + x7), .inr (.inr r5)] u3.2 = _
        refine Eq.trans (e1 hG PT_161 k161_116 _ _ _) ?_
        show G 161 117 [some (.inr (.inr x0)), some (.inl x1), some (.inl x2), some (.inl x3), some (.inl x4), some (.inl 1), some (.inl x6), some (.inl x7), some (.inr (.inl j2)), none, some (.inl i4), o11, o12] [.inl (6 * x3), .inl (12 * x2), .inr (.inr r7), .inr (.inl j2), .inr (.inl j6), .inl ((252 * (x1 + x6)) + x7), .inr (.inr r5)] u3.2 = _
        refine Eq.trans (e1 hG PT_161 k161_117 _ _ _) ?_
        show G 161 118 [some (.inr (.inr x0)), some (.inl x1), some (.inl x2), some (.inl x3), some (.inl x4), some (.inl 1), some (.inl x6), some (.inl x7), some (.inr (.inl j2)), none, some (.inl i4), o11, o12] [.inl ((12 * x2) + (6 * x3)), .inr (.inr r7), .inr (.inl j2), .inr (.inl j6), .inl ((252 * (x1 + x6)) + x7), .inr (.inr r5)] u3.2 = _
        refine Eq.trans (e1 hG PT_161 k161_118 _ _ _) ?_
        refine bdc fun i8 => ?_
        show G 161 119 [some (.inr (.inr x0)), some (.inl x1), some (.inl x2), some (.inl x3), some (.inl x4), some (.inl 1), some (.inl x6), some (.inl x7), some (.inr (.inl j2)), none, some (.inl i4), o11, o12] [.inl i8, .inr (.inl j2), .inr (.inl j6), .inl ((252 * (x1 + x6)) + x7), .inr (.inr r5)] u3.2 = _
        refine Eq.trans (e1 hG PT_161 k161_119 _ _ _) ?_
        show G 161 120 [some (.inr (.inr x0)), some (.inl x1), some (.inl x2), some (.inl x3), some (.inl x4), some (.inl 1), some (.inl x6), some (.inl x7), some (.inr (.inl j2)), none, some (.inl i4), o11, o12] [.inr (.inl i8.toInt64), .inr (.inl j2), .inr (.inl j6), .inl ((252 * (x1 + x6)) + x7), .inr (.inr r5)] u3.2 = _
        refine Eq.trans (e1 hG PT_161 k161_120 _ _ _) ?_
        show G 161 121 [some (.inr (.inr x0)), some (.inl x1), some (.inl x2), some (.inl x3), some (.inl x4), some (.inl 1), some (.inl x6), some (.inl x7), some (.inr (.inl j2)), none, some (.inl i4), o11, o12] [.inr (.inl (j2 * i8.toInt64)), .inr (.inl j6), .inl ((252 * (x1 + x6)) + x7), .inr (.inr r5)] u3.2 = _
        refine Eq.trans (e1 hG PT_161 k161_121 _ _ _) ?_
        show G 161 122 [some (.inr (.inr x0)), some (.inl x1), some (.inl x2), some (.inl x3), some (.inl x4), some (.inl 1), some (.inl x6), some (.inl x7), some (.inr (.inl j2)), none, some (.inl i4), o11, o12] [.inr (.inl (j6 + (j2 * i8.toInt64))), .inl ((252 * (x1 + x6)) + x7), .inr (.inr r5)] u3.2 = _
        refine Eq.trans (e1 hG PT_161 k161_122 _ _ _) ?_
        refine bdc fun H9 => ?_
        show G 161 123 [some (.inr (.inr x0)), some (.inl x1), some (.inl x2), some (.inl x3), some (.inl x4), some (.inl 1), some (.inl x6), some (.inl x7), some (.inr (.inl j2)), none, some (.inl i4), o11, o12] [] H9 = _
        refine Eq.trans (e1 hG PT_161 k161_123 _ _ _) ?_
        show G 161 124 [some (.inr (.inr x0)), some (.inl x1), some (.inl x2), some (.inl x3), some (.inl x4), some (.inl 1), some (.inl x6), some (.inl x7), some (.inr (.inl j2)), none, some (.inl i4), o11, o12] [.inl 0] H9 = _
        refine Eq.trans (e1 hG PT_161 k161_124 _ _ _) ?_
        rfl
      · rfl
set_option maxRecDepth 100000 in
theorem b161_126 {G : AG} (hG : FIX G) (x0 : Nat) (x1 : Int32) (x2 : Int32) (x3 : Int32) (x4 : Int32) (x5 : Int32) (x6 : Int32) (x7 : Int32) (x8 : Int64) (x10 : Int32) (x11 : Int32) (o12 : Option AV) (H : Hp) : G 161 126 [some (.inr (.inr x0)), some (.inl x1), some (.inl x2), some (.inl x3), some (.inl x4), some (.inl x5), some (.inl x6), some (.inl x7), some (.inr (.inl x8)), none, some (.inl x10), some (.inl x11), o12] [] H = (bif decide (((2 + x4) : Int32) ≤ (x11 : Int32)) then G 161 221 [some (.inr (.inr x0)), some (.inl x1), some (.inl x2), some (.inl x3), some (.inl x4), some (.inl x5), some (.inl x6), some (.inl x7), some (.inr (.inl x8)), none, some (.inl x10), some (.inl x11), o12] [] H else bif Nat.beq (H.1 x0).1 12 then (G 162 0 [some (.inr (.inr x0)), some (.inl x7), none, none] [] H).bind fun u1 => (asI u1.1).bind fun i2 => bif decide ((5 : Int32) ≤ (i2 : Int32)) then G 161 159 [some (.inr (.inr x0)), some (.inl x1), some (.inl x2), some (.inl x3), some (.inl x4), some (.inl x5), some (.inl x6), some (.inl x7), some (.inr (.inl x8)), none, some (.inl x10), some (.inl x11), o12] [.inl (-1)] u1.2 else (hgR u1.2 x0 62).bind fun r3 => (hAI u1.2 r3 ((x10 + x5))).bind fun i4 => G 161 159 [some (.inr (.inr x0)), some (.inl x1), some (.inl x2), some (.inl x3), some (.inl x4), some (.inl x5), some (.inl x6), some (.inl x7), some (.inr (.inl x8)), none, some (.inl x10), some (.inl x11), o12] [.inl i4] u1.2 else none) := by
  refine Eq.trans (e1 hG PT_161 k161_126 _ _ _) ?_
  show G 161 128 [some (.inr (.inr x0)), some (.inl x1), some (.inl x2), some (.inl x3), some (.inl x4), some (.inl x5), some (.inl x6), some (.inl x7), some (.inr (.inl x8)), none, some (.inl x10), some (.inl x11), o12] [.inl x11] H = _
  refine Eq.trans (e1 hG PT_161 k161_128 _ _ _) ?_
  show G 161 129 [some (.inr (.inr x0)), some (.inl x1), some (.inl x2), some (.inl x3), some (.inl x4), some (.inl x5), some (.inl x6), some (.inl x7), some (.inr (.inl x8)), none, some (.inl x10), some (.inl x11), o12] [.inl 2, .inl x11] H = _
  refine Eq.trans (e1 hG PT_161 k161_129 _ _ _) ?_
  show G 161 131 [some (.inr (.inr x0)), some (.inl x1), some (.inl x2), some (.inl x3), some (.inl x4), some (.inl x5), some (.inl x6), some (.inl x7), some (.inr (.inl x8)), none, some (.inl x10), some (.inl x11), o12] [.inl x4, .inl 2, .inl x11] H = _
  refine Eq.trans (e1 hG PT_161 k161_131 _ _ _) ?_
  show G 161 132 [some (.inr (.inr x0)), some (.inl x1), some (.inl x2), some (.inl x3), some (.inl x4), some (.inl x5), some (.inl x6), some (.inl x7), some (.inr (.inl x8)), none, some (.inl x10), some (.inl x11), o12] [.inl (2 + x4), .inl x11] H = _
  refine Eq.trans (e1 hG PT_161 k161_132 _ _ _) ?_
  refine bfc ?_ ?_
  · rfl
  · show G 161 135 [some (.inr (.inr x0)), some (.inl x1), some (.inl x2), some (.inl x3), some (.inl x4), some (.inl x5), some (.inl x6), some (.inl x7), some (.inr (.inl x8)), none, some (.inl x10), some (.inl x11), o12] [] H = _
    refine Eq.trans (e1 hG PT_161 k161_135 _ _ _) ?_
    show G 161 136 [some (.inr (.inr x0)), some (.inl x1), some (.inl x2), some (.inl x3), some (.inl x4), some (.inl x5), some (.inl x6), some (.inl x7), some (.inr (.inl x8)), none, some (.inl x10), some (.inl x11), o12] [.inr (.inr x0)] H = _
    refine Eq.trans (e1 hG PT_161 k161_136 _ _ _) ?_
    show G 161 138 [some (.inr (.inr x0)), some (.inl x1), some (.inl x2), some (.inl x3), some (.inl x4), some (.inl x5), some (.inl x6), some (.inl x7), some (.inr (.inl x8)), none, some (.inl x10), some (.inl x11), o12] [.inl x7, .inr (.inr x0)] H = _
    refine Eq.trans (e1 hG PT_161 k161_138 _ _ _) ?_
    refine bfc ?_ ?_
    · refine bdc fun u1 => ?_
      refine bdc fun i2 => ?_
      show G 161 141 [some (.inr (.inr x0)), some (.inl x1), some (.inl x2), some (.inl x3), some (.inl x4), some (.inl x5), some (.inl x6), some (.inl x7), some (.inr (.inl x8)), none, some (.inl x10), some (.inl x11), o12] [.inl i2] u1.2 = _
      refine Eq.trans (e1 hG PT_161 k161_141 _ _ _) ?_
      show G 161 142 [some (.inr (.inr x0)), some (.inl x1), some (.inl x2), some (.inl x3), some (.inl x4), some (.inl x5), some (.inl x6), some (.inl x7), some (.inr (.inl x8)), none, some (.inl x10), some (.inl x11), o12] [.inl 5, .inl i2] u1.2 = _
      refine Eq.trans (e1 hG PT_161 k161_142 _ _ _) ?_
      refine bfc ?_ ?_
      · show G 161 158 [some (.inr (.inr x0)), some (.inl x1), some (.inl x2), some (.inl x3), some (.inl x4), some (.inl x5), some (.inl x6), some (.inl x7), some (.inr (.inl x8)), none, some (.inl x10), some (.inl x11), o12] [] u1.2 = _
        refine Eq.trans (e1 hG PT_161 k161_158 _ _ _) ?_
        rfl
      · show G 161 145 [some (.inr (.inr x0)), some (.inl x1), some (.inl x2), some (.inl x3), some (.inl x4), some (.inl x5), some (.inl x6), some (.inl x7), some (.inr (.inl x8)), none, some (.inl x10), some (.inl x11), o12] [] u1.2 = _
        refine Eq.trans (e1 hG PT_161 k161_145 _ _ _) ?_
        show G 161 146 [some (.inr (.inr x0)), some (.inl x1), some (.inl x2), some (.inl x3), some (.inl x4), some (.inl x5), some (.inl x6), some (.inl x7), some (.inr (.inl x8)), none, some (.inl x10), some (.inl x11), o12] [.inr (.inr x0)] u1.2 = _
        refine Eq.trans (e1 hG PT_161 k161_146 _ _ _) ?_
        refine bdc fun r3 => ?_
        show G 161 149 [some (.inr (.inr x0)), some (.inl x1), some (.inl x2), some (.inl x3), some (.inl x4), some (.inl x5), some (.inl x6), some (.inl x7), some (.inr (.inl x8)), none, some (.inl x10), some (.inl x11), o12] [.inr (.inr r3)] u1.2 = _
        refine Eq.trans (e1 hG PT_161 k161_149 _ _ _) ?_
        show G 161 151 [some (.inr (.inr x0)), some (.inl x1), some (.inl x2), some (.inl x3), some (.inl x4), some (.inl x5), some (.inl x6), some (.inl x7), some (.inr (.inl x8)), none, some (.inl x10), some (.inl x11), o12] [.inl x10, .inr (.inr r3)] u1.2 = _
        refine Eq.trans (e1 hG PT_161 k161_151 _ _ _) ?_
        show G 161 153 [some (.inr (.inr x0)), some (.inl x1), some (.inl x2), some (.inl x3), some (.inl x4), some (.inl x5), some (.inl x6), some (.inl x7), some (.inr (.inl x8)), none, some (.inl x10), some (.inl x11), o12] [.inl x5, .inl x10, .inr (.inr r3)] u1.2 = _
        refine Eq.trans (e1 hG PT_161 k161_153 _ _ _) ?_
        show G 161 154 [some (.inr (.inr x0)), some (.inl x1), some (.inl x2), some (.inl x3), some (.inl x4), some (.inl x5), some (.inl x6), some (.inl x7), some (.inr (.inl x8)), none, some (.inl x10), some (.inl x11), o12] [.inl (x10 + x5), .inr (.inr r3)] u1.2 = _
        refine Eq.trans (e1 hG PT_161 k161_154 _ _ _) ?_
        refine bdc fun i4 => ?_
        show G 161 155 [some (.inr (.inr x0)), some (.inl x1), some (.inl x2), some (.inl x3), some (.inl x4), some (.inl x5), some (.inl x6), some (.inl x7), some (.inr (.inl x8)), none, some (.inl x10), some (.inl x11), o12] [.inl i4] u1.2 = _
        refine Eq.trans (e1 hG PT_161 k161_155 _ _ _) ?_
        rfl
    · rfl
set_option maxRecDepth 100000 in
theorem b161_159 {G : AG} (hG : FIX G) (x0 : Nat) (x1 : Int32) (x2 : Int32) (x3 : Int32) (x4 : Int32) (x5 : Int32) (x6 : Int32) (x7 : Int32) (x8 : Int64) (x10 : Int32) (x11 : Int32) (o12 : Option AV) (s0 : Int32) (H : Hp) : G 161 159 [some (.inr (.inr x0)), some (.inl x1), some (.inl x2), some (.inl x3), some (.inl x4), some (.inl x5), some (.inl x6), some (.inl x7), some (.inr (.inl x8)), none, some (.inl x10), some (.inl x11), o12] [.inl s0] H = (bif decide ((s0 : Int32) < 0) then G 161 208 [some (.inr (.inr x0)), some (.inl x1), some (.inl x2), some (.inl x3), some (.inl x4), some (.inl x5), some (.inl x6), some (.inl x7), some (.inr (.inl x8)), none, some (.inl x10), some (.inl x11), some (.inl s0)] [] H else (hgR H x0 67).bind fun r1 => (hAJ H r1 (((252 * (x1 + x6)) + s0))).bind fun j2 => (hgR H x0 55).bind fun r3 => (hAI H r3 (((((12 * x2) + (6 * x3)) + 1) + x11))).bind fun i4 => (hSJ H r1 (((252 * (x1 + x6)) + s0)) ((j2 + (x8 * i4.toInt64)))).bind fun H5 => G 161 208 [some (.inr (.inr x0)), some (.inl x1), some (.inl x2), some (.inl x3), some (.inl x4), some (.inl x5), some (.inl x6), some (.inl x7), some (.inr (.inl x8)), none, some (.inl x10), some (.inl x11), some (.inl s0)] [] H5) := by
  refine Eq.trans (e1 hG PT_161 k161_159 _ _ _) ?_
  show G 161 161 [some (.inr (.inr x0)), some (.inl x1), some (.inl x2), some (.inl x3), some (.inl x4), some (.inl x5), some (.inl x6), some (.inl x7), some (.inr (.inl x8)), none, some (.inl x10), some (.inl x11), some (.inl s0)] [] H = _
  refine Eq.trans (e1 hG PT_161 k161_161 _ _ _) ?_
  show G 161 163 [some (.inr (.inr x0)), some (.inl x1), some (.inl x2), some (.inl x3), some (.inl x4), some (.inl x5), some (.inl x6), some (.inl x7), some (.inr (.inl x8)), none, some (.inl x10), some (.inl x11), some (.inl s0)] [.inl s0] H = _
  refine Eq.trans (e1 hG PT_161 k161_163 _ _ _) ?_
  refine bfc ?_ ?_
  · rfl
  · show G 161 166 [some (.inr (.inr x0)), some (.inl x1), some (.inl x2), some (.inl x3), some (.inl x4), some (.inl x5), some (.inl x6), some (.inl x7), some (.inr (.inl x8)), none, some (.inl x10), some (.inl x11), some (.inl s0)] [] H = _
    refine Eq.trans (e1 hG PT_161 k161_166 _ _ _) ?_
    show G 161 167 [some (.inr (.inr x0)), some (.inl x1), some (.inl x2), some (.inl x3), some (.inl x4), some (.inl x5), some (.inl x6), some (.inl x7), some (.inr (.inl x8)), none, some (.inl x10), some (.inl x11), some (.inl s0)] [.inr (.inr x0)] H = _
    refine Eq.trans (e1 hG PT_161 k161_167 _ _ _) ?_
    refine bdc fun r1 => ?_
    show G 161 170 [some (.inr (.inr x0)), some (.inl x1), some (.inl x2), some (.inl x3), some (.inl x4), some (.inl x5), some (.inl x6), some (.inl x7), some (.inr (.inl x8)), none, some (.inl x10), some (.inl x11), some (.inl s0)] [.inr (.inr r1)] H = _
    refine Eq.trans (e1 hG PT_161 k161_170 _ _ _) ?_
    show G 161 173 [some (.inr (.inr x0)), some (.inl x1), some (.inl x2), some (.inl x3), some (.inl x4), some (.inl x5), some (.inl x6), some (.inl x7), some (.inr (.inl x8)), none, some (.inl x10), some (.inl x11), some (.inl s0)] [.inl 252, .inr (.inr r1)] H = _
    refine Eq.trans (e1 hG PT_161 k161_173 _ _ _) ?_
    show G 161 174 [some (.inr (.inr x0)), some (.inl x1), some (.inl x2), some (.inl x3), some (.inl x4), some (.inl x5), some (.inl x6), some (.inl x7), some (.inr (.inl x8)), none, some (.inl x10), some (.inl x11), some (.inl s0)] [.inl x1, .inl 252, .inr (.inr r1)] H = _
    refine Eq.trans (e1 hG PT_161 k161_174 _ _ _) ?_
    show G 161 176 [some (.inr (.inr x0)), some (.inl x1), some (.inl x2), some (.inl x3), some (.inl x4), some (.inl x5), some (.inl x6), some (.inl x7), some (.inr (.inl x8)), none, some (.inl x10), some (.inl x11), some (.inl s0)] [.inl x6, .inl x1, .inl 252, .inr (.inr r1)] H = _
    refine Eq.trans (e1 hG PT_161 k161_176 _ _ _) ?_
    show G 161 177 [some (.inr (.inr x0)), some (.inl x1), some (.inl x2), some (.inl x3), some (.inl x4), some (.inl x5), some (.inl x6), some (.inl x7), some (.inr (.inl x8)), none, some (.inl x10), some (.inl x11), some (.inl s0)] [.inl (x1 + x6), .inl 252, .inr (.inr r1)] H = _
    refine Eq.trans (e1 hG PT_161 k161_177 _ _ _) ?_
    show G 161 178 [some (.inr (.inr x0)), some (.inl x1), some (.inl x2), some (.inl x3), some (.inl x4), some (.inl x5), some (.inl x6), some (.inl x7), some (.inr (.inl x8)), none, some (.inl x10), some (.inl x11), some (.inl s0)] [.inl (252 * (x1 + x6)), .inr (.inr r1)] H = _
    refine Eq.trans (e1 hG PT_161 k161_178 _ _ _) ?_
    show G 161 180 [some (.inr (.inr x0)), some (.inl x1), some (.inl x2), some (.inl x3), some (.inl x4), some (.inl x5), some (.inl x6), some (.inl x7), some (.inr (.inl x8)), none, some (.inl x10), some (.inl x11), some (.inl s0)] [.inl s0, .inl (252 * (x1 + x6)), .inr (.inr r1)] H = _
    refine Eq.trans (e1 hG PT_161 k161_180 _ _ _) ?_
    show G 161 181 [some (.inr (.inr x0)), some (.inl x1), some (.inl x2), some (.inl x3), some (.inl x4), some (.inl x5), some (.inl x6), some (.inl x7), some (.inr (.inl x8)), none, some (.inl x10), some (.inl x11), some (.inl s0)] [.inl ((252 * (x1 + x6)) + s0), .inr (.inr r1)] H = _
    refine Eq.trans (e1 hG PT_161 k161_181 _ _ _) ?_
    show G 161 182 [some (.inr (.inr x0)), some (.inl x1), some (.inl x2), some (.inl x3), some (.inl x4), some (.inl x5), some (.inl x6), some (.inl x7), some (.inr (.inl x8)), none, some (.inl x10), some (.inl x11), some (.inl s0)] [.inl ((252 * (x1 + x6)) + s0), .inr (.inr r1), .inl ((252 * (x1 + x6)) + s0), .inr (.inr r1)] H = _
    refine Eq.trans (e1 hG PT_161 k161_182 _ _ _) ?_
    refine bdc fun j2 => ?_
    show G 161 183 [some (.inr (.inr x0)), some (.inl x1), some (.inl x2), some (.inl x3), some (.inl x4), some (.inl x5), some (.inl x6), some (.inl x7), some (.inr (.inl x8)), none, some (.inl x10), some (.inl x11), some (.inl s0)] [.inr (.inl j2), .inl ((252 * (x1 + x6)) + s0), .inr (.inr r1)] H = _
    refine Eq.trans (e1 hG PT_161 k161_183 _ _ _) ?_
    show G 161 185 [some (.inr (.inr x0)), some (.inl x1), some (.inl x2), some (.inl x3), some (.inl x4), some (.inl x5), some (.inl x6), some (.inl x7), some (.inr (.inl x8)), none, some (.inl x10), some (.inl x11), some (.inl s0)] [.inr (.inl x8), .inr (.inl j2), .inl ((252 * (x1 + x6)) + s0), .inr (.inr r1)] H = _
    refine Eq.trans (e1 hG PT_161 k161_185 _ _ _) ?_
    show G 161 186 [some (.inr (.inr x0)), some (.inl x1), some (.inl x2), some (.inl x3), some (.inl x4), some (.inl x5), some (.inl x6), some (.inl x7), some (.inr (.inl x8)), none, some (.inl x10), some (.inl x11), some (.inl s0)] [.inr (.inr x0), .inr (.inl x8), .inr (.inl j2), .inl ((252 * (x1 + x6)) + s0), .inr (.inr r1)] H = _
    refine Eq.trans (e1 hG PT_161 k161_186 _ _ _) ?_
    refine bdc fun r3 => ?_
    show G 161 189 [some (.inr (.inr x0)), some (.inl x1), some (.inl x2), some (.inl x3), some (.inl x4), some (.inl x5), some (.inl x6), some (.inl x7), some (.inr (.inl x8)), none, some (.inl x10), some (.inl x11), some (.inl s0)] [.inr (.inr r3), .inr (.inl x8), .inr (.inl j2), .inl ((252 * (x1 + x6)) + s0), .inr (.inr r1)] H = _
    refine Eq.trans (e1 hG PT_161 k161_189 _ _ _) ?_
    show G 161 191 [some (.inr (.inr x0)), some (.inl x1), some (.inl x2), some (.inl x3), some (.inl x4), some (.inl x5), some (.inl x6), some (.inl x7), some (.inr (.inl x8)), none, some (.inl x10), some (.inl x11), some (.inl s0)] [.inl 12, .inr (.inr r3), .inr (.inl x8), .inr (.inl j2), .inl ((252 * (x1 + x6)) + s0), .inr (.inr r1)] H = _
    refine Eq.trans (e1 hG PT_161 k161_191 _ _ _) ?_
    show G 161 192 [some (.inr (.inr x0)), some (.inl x1), some (.inl x2), some (.inl x3), some (.inl x4), some (.inl x5), some (.inl x6), some (.inl x7), some (.inr (.inl x8)), none, some (.inl x10), some (.inl x11), some (.inl s0)] [.inl x2, .inl 12, .inr (.inr r3), .inr (.inl x8), .inr (.inl j2), .inl ((252 * (x1 + x6)) + s0), .inr (.inr r1)] H = _
    refine Eq.trans (e1 hG PT_161 k161_192 _ _ _) ?_
    show G 161 193 [some (.inr (.inr x0)), some (.inl x1), some (.inl x2), some (.inl x3), some (.inl x4), some (.inl x5), some (.inl x6), some (.inl x7), some (.inr (.inl x8)), none, some (.inl x10), some (.inl x11), some (.inl s0)] [.inl (12 * x2), .inr (.inr r3), .inr (.inl x8), .inr (.inl j2), .inl ((252 * (x1 + x6)) + s0), .inr (.inr r1)] H = _
    refine Eq.trans (e1 hG PT_161 k161_193 _ _ _) ?_
    show G 161 195 [some (.inr (.inr x0)), some (.inl x1), some (.inl x2), some (.inl x3), some (.inl x4), some (.inl x5), some (.inl x6), some (.inl x7), some (.inr (.inl x8)), none, some (.inl x10), some (.inl x11), some (.inl s0)] [.inl 6, .inl (12 * x2), .inr (.inr r3), .inr (.inl x8), .inr (.inl j2), .inl ((252 * (x1 + x6)) + s0), .inr (.inr r1)] H = _
    refine Eq.trans (e1 hG PT_161 k161_195 _ _ _) ?_
    show G 161 196 [some (.inr (.inr x0)), some (.inl x1), some (.inl x2), some (.inl x3), some (.inl x4), some (.inl x5), some (.inl x6), some (.inl x7), some (.inr (.inl x8)), none, some (.inl x10), some (.inl x11), some (.inl s0)] [.inl x3, .inl 6, .inl (12 * x2), .inr (.inr r3), .inr (.inl x8), .inr (.inl j2), .inl ((252 * (x1 + x6)) + s0), .inr (.inr r1)] H = _
    refine Eq.trans (e1 hG PT_161 k161_196 _ _ _) ?_
    show G 161 197 [some (.inr (.inr x0)), some (.inl x1), some (.inl x2), some (.inl x3), some (.inl x4), some (.inl x5), some (.inl x6), some (.inl x7), some (.inr (.inl x8)), none, some (.inl x10), some (.inl x11), some (.inl s0)] [.inl (6 * x3), .inl (12 * x2), .inr (.inr r3), .inr (.inl x8), .inr (.inl j2), .inl ((252 * (x1 + x6)) + s0), .inr (.inr r1)] H = _
    refine Eq.trans (e1 hG PT_161 k161_197 _ _ _) ?_
    show G 161 198 [some (.inr (.inr x0)), some (.inl x1), some (.inl x2), some (.inl x3), some (.inl x4), some (.inl x5), some (.inl x6), some (.inl x7), some (.inr (.inl x8)), none, some (.inl x10), some (.inl x11), some (.inl s0)] [.inl ((12 * x2) + (6 * x3)), .inr (.inr r3), .inr (.inl x8), .inr (.inl j2), .inl ((252 * (x1 + x6)) + s0), .inr (.inr r1)] H = _
    refine Eq.trans (e1 hG PT_161 k161_198 _ _ _) ?_
    show G 161 199 [some (.inr (.inr x0)), some (.inl x1), some (.inl x2), some (.inl x3), some (.inl x4), some (.inl x5), some (.inl x6), some (.inl x7), some (.inr (.inl x8)), none, some (.inl x10), some (.inl x11), some (.inl s0)] [.inl 1, .inl ((12 * x2) + (6 * x3)), .inr (.inr r3), .inr (.inl x8), .inr (.inl j2), .inl ((252 * (x1 + x6)) + s0), .inr (.inr r1)] H = _
    refine Eq.trans (e1 hG PT_161 k161_199 _ _ _) ?_
    show G 161 200 [some (.inr (.inr x0)), some (.inl x1), some (.inl x2), some (.inl x3), some (.inl x4), some (.inl x5), some (.inl x6), some (.inl x7), some (.inr (.inl x8)), none, some (.inl x10), some (.inl x11), some (.inl s0)] [.inl (((12 * x2) + (6 * x3)) + 1), .inr (.inr r3), .inr (.inl x8), .inr (.inl j2), .inl ((252 * (x1 + x6)) + s0), .inr (.inr r1)] H = _
    refine Eq.trans (e1 hG PT_161 k161_200 _ _ _) ?_
    show G 161 202 [some (.inr (.inr x0)), some (.inl x1), some (.inl x2), some (.inl x3), some (.inl x4), some (.inl x5), some (.inl x6), some (.inl x7), some (.inr (.inl x8)), none, some (.inl x10), some (.inl x11), some (.inl s0)] [.inl x11, .inl (((12 * x2) + (6 * x3)) + 1), .inr (.inr r3), .inr (.inl x8), .inr (.inl j2), .inl ((252 * (x1 + x6)) + s0), .inr (.inr r1)] H = _
    refine Eq.trans (e1 hG PT_161 k161_202 _ _ _) ?_
    show G 161 203 [some (.inr (.inr x0)), some (.inl x1), some (.inl x2), some (.inl x3), some (.inl x4), some (.inl x5), some (.inl x6), some (.inl x7), some (.inr (.inl x8)), none, some (.inl x10), some (.inl x11), some (.inl s0)] [.inl ((((12 * x2) + (6 * x3)) + 1) + x11), .inr (.inr r3), .inr (.inl x8), .inr (.inl j2), .inl ((252 * (x1 + x6)) + s0), .inr (.inr r1)] H = _
    refine Eq.trans (e1 hG PT_161 k161_203 _ _ _) ?_
    refine bdc fun i4 => ?_
    show G 161 204 [some (.inr (.inr x0)), some (.inl x1), some (.inl x2), some (.inl x3), some (.inl x4), some (.inl x5), some (.inl x6), some (.inl x7), some (.inr (.inl x8)), none, some (.inl x10), some (.inl x11), some (.inl s0)] [.inl i4, .inr (.inl x8), .inr (.inl j2), .inl ((252 * (x1 + x6)) + s0), .inr (.inr r1)] H = _
    refine Eq.trans (e1 hG PT_161 k161_204 _ _ _) ?_
    show G 161 205 [some (.inr (.inr x0)), some (.inl x1), some (.inl x2), some (.inl x3), some (.inl x4), some (.inl x5), some (.inl x6), some (.inl x7), some (.inr (.inl x8)), none, some (.inl x10), some (.inl x11), some (.inl s0)] [.inr (.inl i4.toInt64), .inr (.inl x8), .inr (.inl j2), .inl ((252 * (x1 + x6)) + s0), .inr (.inr r1)] H = _
    refine Eq.trans (e1 hG PT_161 k161_205 _ _ _) ?_
    show G 161 206 [some (.inr (.inr x0)), some (.inl x1), some (.inl x2), some (.inl x3), some (.inl x4), some (.inl x5), some (.inl x6), some (.inl x7), some (.inr (.inl x8)), none, some (.inl x10), some (.inl x11), some (.inl s0)] [.inr (.inl (x8 * i4.toInt64)), .inr (.inl j2), .inl ((252 * (x1 + x6)) + s0), .inr (.inr r1)] H = _
    refine Eq.trans (e1 hG PT_161 k161_206 _ _ _) ?_
    show G 161 207 [some (.inr (.inr x0)), some (.inl x1), some (.inl x2), some (.inl x3), some (.inl x4), some (.inl x5), some (.inl x6), some (.inl x7), some (.inr (.inl x8)), none, some (.inl x10), some (.inl x11), some (.inl s0)] [.inr (.inl (j2 + (x8 * i4.toInt64))), .inl ((252 * (x1 + x6)) + s0), .inr (.inr r1)] H = _
    refine Eq.trans (e1 hG PT_161 k161_207 _ _ _) ?_
    refine bdc fun H5 => ?_
    rfl
set_option maxRecDepth 100000 in
theorem b161_208 {G : AG} (hG : FIX G) (x0 : Nat) (x1 : Int32) (x2 : Int32) (x3 : Int32) (x4 : Int32) (x5 : Int32) (x6 : Int32) (x7 : Int32) (x8 : Int64) (x10 : Int32) (x11 : Int32) (x12 : Int32) (H : Hp) : G 161 208 [some (.inr (.inr x0)), some (.inl x1), some (.inl x2), some (.inl x3), some (.inl x4), some (.inl x5), some (.inl x6), some (.inl x7), some (.inr (.inl x8)), none, some (.inl x10), some (.inl x11), some (.inl x12)] [] H = (G 161 126 [some (.inr (.inr x0)), some (.inl x1), some (.inl x2), some (.inl x3), some (.inl x4), some (.inl (x5 * 6)), some (.inl x6), some (.inl x7), some (.inr (.inl x8)), none, some (.inl x10), some (.inl (x11 + 1)), some (.inl x12)] [] H) := by
  refine Eq.trans (e1 hG PT_161 k161_208 _ _ _) ?_
  show G 161 210 [some (.inr (.inr x0)), some (.inl x1), some (.inl x2), some (.inl x3), some (.inl x4), some (.inl x5), some (.inl x6), some (.inl x7), some (.inr (.inl x8)), none, some (.inl x10), some (.inl x11), some (.inl x12)] [.inl x5] H = _
  refine Eq.trans (e1 hG PT_161 k161_210 _ _ _) ?_
  show G 161 212 [some (.inr (.inr x0)), some (.inl x1), some (.inl x2), some (.inl x3), some (.inl x4), some (.inl x5), some (.inl x6), some (.inl x7), some (.inr (.inl x8)), none, some (.inl x10), some (.inl x11), some (.inl x12)] [.inl 6, .inl x5] H = _
  refine Eq.trans (e1 hG PT_161 k161_212 _ _ _) ?_
  show G 161 213 [some (.inr (.inr x0)), some (.inl x1), some (.inl x2), some (.inl x3), some (.inl x4), some (.inl x5), some (.inl x6), some (.inl x7), some (.inr (.inl x8)), none, some (.inl x10), some (.inl x11), some (.inl x12)] [.inl (x5 * 6)] H = _
  refine Eq.trans (e1 hG PT_161 k161_213 _ _ _) ?_
  show G 161 215 [some (.inr (.inr x0)), some (.inl x1), some (.inl x2), some (.inl x3), some (.inl x4), some (.inl (x5 * 6)), some (.inl x6), some (.inl x7), some (.inr (.inl x8)), none, some (.inl x10), some (.inl x11), some (.inl x12)] [] H = _
  refine Eq.trans (e1 hG PT_161 k161_215 _ _ _) ?_
  show G 161 218 [some (.inr (.inr x0)), some (.inl x1), some (.inl x2), some (.inl x3), some (.inl x4), some (.inl (x5 * 6)), some (.inl x6), some (.inl x7), some (.inr (.inl x8)), none, some (.inl x10), some (.inl (x11 + 1)), some (.inl x12)] [] H = _
  refine Eq.trans (e1 hG PT_161 k161_218 _ _ _) ?_
  rfl
set_option maxRecDepth 100000 in
theorem b161_221 {G : AG} (hG : FIX G) (x0 : Nat) (x1 : Int32) (x2 : Int32) (x3 : Int32) (x4 : Int32) (x5 : Int32) (x6 : Int32) (x7 : Int32) (x8 : Int64) (o10 : Option AV) (o11 : Option AV) (o12 : Option AV) (H : Hp) : G 161 221 [some (.inr (.inr x0)), some (.inl x1), some (.inl x2), some (.inl x3), some (.inl x4), some (.inl x5), some (.inl x6), some (.inl x7), some (.inr (.inl x8)), none, o10, o11, o12] [] H = (G 161 40 [some (.inr (.inr x0)), some (.inl x1), some (.inl x2), some (.inl x3), some (.inl x4), some (.inl x5), some (.inl x6), some (.inl (x7 + 1)), some (.inr (.inl x8)), none, o10, o11, o12] [] H) := by
  refine Eq.trans (e1 hG PT_161 k161_221 _ _ _) ?_
  show G 161 224 [some (.inr (.inr x0)), some (.inl x1), some (.inl x2), some (.inl x3), some (.inl x4), some (.inl x5), some (.inl x6), some (.inl (x7 + 1)), some (.inr (.inl x8)), none, o10, o11, o12] [] H = _
  refine Eq.trans (e1 hG PT_161 k161_224 _ _ _) ?_
  rfl
-- StepsAheadModel.degree(I)I
theorem PT_162 : PT 162 = pt162 := rfl
theorem k162_0 : lkp pt162 0 = iP 1 (fK (.inl 0)) := rfl
theorem k162_1 : lkp pt162 1 = iP 2 (fIst 2) := rfl
theorem k162_2 : lkp pt162 2 = iP 3 (fK (.inl 0)) := rfl
theorem k162_3 : lkp pt162 3 = iP 4 (fIst 3) := rfl
theorem k162_4 : lkp pt162 4 = iP 5 (fIld 3) := rfl
theorem k162_5 : lkp pt162 5 = iP 6 (fK (.inl 5)) := rfl
theorem k162_6 : lkp pt162 6 = iB 9 28 (b2 (fun x y => decide (y ≤ x))) := rfl
theorem k162_9 : lkp pt162 9 = iP 10 (fIld 2) := rfl
theorem k162_10 : lkp pt162 10 = iP 11 (fAld 0) := rfl
theorem k162_11 : lkp pt162 11 = iRR 14 (gtR 61) := rfl
theorem k162_14 : lkp pt162 14 = iP 15 (fK (.inl 5)) := rfl
theorem k162_15 : lkp pt162 15 = iP 16 (fIld 1) := rfl
theorem k162_16 : lkp pt162 16 = iP 17 (f2I (fun x y => x * y)) := rfl
theorem k162_17 : lkp pt162 17 = iP 18 (fIld 3) := rfl
theorem k162_18 : lkp pt162 18 = iP 19 (f2I (fun x y => x + y)) := rfl
theorem k162_19 : lkp pt162 19 = iRI 20 qAI := rfl
theorem k162_20 : lkp pt162 20 = iP 21 (f2I (fun x y => x + y)) := rfl
theorem k162_21 : lkp pt162 21 = iP 22 (fIst 2) := rfl
theorem k162_22 : lkp pt162 22 = iP 25 (fInc 3 1) := rfl
theorem k162_25 : lkp pt162 25 = iP 4 fGo := rfl
theorem k162_28 : lkp pt162 28 = iP 29 (fIld 2) := rfl
theorem k162_29 : lkp pt162 29 = iRet rI := rfl
theorem b162_0 {G : AG} (hG : FIX G) (x0 : Nat) (x1 : Int32) (H : Hp) : G 162 0 [some (.inr (.inr x0)), some (.inl x1), none, none] [] H = (G 162 4 [some (.inr (.inr x0)), some (.inl x1), some (.inl 0), some (.inl 0)] [] H) := by
  refine Eq.trans (e1 hG PT_162 k162_0 _ _ _) ?_
  show G 162 1 [some (.inr (.inr x0)), some (.inl x1), none, none] [.inl 0] H = _
  refine Eq.trans (e1 hG PT_162 k162_1 _ _ _) ?_
  show G 162 2 [some (.inr (.inr x0)), some (.inl x1), some (.inl 0), none] [] H = _
  refine Eq.trans (e1 hG PT_162 k162_2 _ _ _) ?_
  show G 162 3 [some (.inr (.inr x0)), some (.inl x1), some (.inl 0), none] [.inl 0] H = _
  refine Eq.trans (e1 hG PT_162 k162_3 _ _ _) ?_
  rfl
theorem b162_4 {G : AG} (hG : FIX G) (x0 : Nat) (x1 : Int32) (x2 : Int32) (x3 : Int32) (H : Hp) : G 162 4 [some (.inr (.inr x0)), some (.inl x1), some (.inl x2), some (.inl x3)] [] H = (bif decide ((5 : Int32) ≤ (x3 : Int32)) then some (some (.inl x2), H) else (hgR H x0 61).bind fun r1 => (hAI H r1 (((5 * x1) + x3))).bind fun i2 => G 162 4 [some (.inr (.inr x0)), some (.inl x1), some (.inl (x2 + i2)), some (.inl (x3 + 1))] [] H) := by
  refine Eq.trans (e1 hG PT_162 k162_4 _ _ _) ?_
  show G 162 5 [some (.inr (.inr x0)), some (.inl x1), some (.inl x2), some (.inl x3)] [.inl x3] H = _
  refine Eq.trans (e1 hG PT_162 k162_5 _ _ _) ?_
  show G 162 6 [some (.inr (.inr x0)), some (.inl x1), some (.inl x2), some (.inl x3)] [.inl 5, .inl x3] H = _
  refine Eq.trans (e1 hG PT_162 k162_6 _ _ _) ?_
  refine bfc ?_ ?_
  · show G 162 28 [some (.inr (.inr x0)), some (.inl x1), some (.inl x2), some (.inl x3)] [] H = _
    refine Eq.trans (e1 hG PT_162 k162_28 _ _ _) ?_
    show G 162 29 [some (.inr (.inr x0)), some (.inl x1), some (.inl x2), some (.inl x3)] [.inl x2] H = _
    exact e1 hG PT_162 k162_29 _ _ _
  · show G 162 9 [some (.inr (.inr x0)), some (.inl x1), some (.inl x2), some (.inl x3)] [] H = _
    refine Eq.trans (e1 hG PT_162 k162_9 _ _ _) ?_
    show G 162 10 [some (.inr (.inr x0)), some (.inl x1), some (.inl x2), some (.inl x3)] [.inl x2] H = _
    refine Eq.trans (e1 hG PT_162 k162_10 _ _ _) ?_
    show G 162 11 [some (.inr (.inr x0)), some (.inl x1), some (.inl x2), some (.inl x3)] [.inr (.inr x0), .inl x2] H = _
    refine Eq.trans (e1 hG PT_162 k162_11 _ _ _) ?_
    refine bdc fun r1 => ?_
    show G 162 14 [some (.inr (.inr x0)), some (.inl x1), some (.inl x2), some (.inl x3)] [.inr (.inr r1), .inl x2] H = _
    refine Eq.trans (e1 hG PT_162 k162_14 _ _ _) ?_
    show G 162 15 [some (.inr (.inr x0)), some (.inl x1), some (.inl x2), some (.inl x3)] [.inl 5, .inr (.inr r1), .inl x2] H = _
    refine Eq.trans (e1 hG PT_162 k162_15 _ _ _) ?_
    show G 162 16 [some (.inr (.inr x0)), some (.inl x1), some (.inl x2), some (.inl x3)] [.inl x1, .inl 5, .inr (.inr r1), .inl x2] H = _
    refine Eq.trans (e1 hG PT_162 k162_16 _ _ _) ?_
    show G 162 17 [some (.inr (.inr x0)), some (.inl x1), some (.inl x2), some (.inl x3)] [.inl (5 * x1), .inr (.inr r1), .inl x2] H = _
    refine Eq.trans (e1 hG PT_162 k162_17 _ _ _) ?_
    show G 162 18 [some (.inr (.inr x0)), some (.inl x1), some (.inl x2), some (.inl x3)] [.inl x3, .inl (5 * x1), .inr (.inr r1), .inl x2] H = _
    refine Eq.trans (e1 hG PT_162 k162_18 _ _ _) ?_
    show G 162 19 [some (.inr (.inr x0)), some (.inl x1), some (.inl x2), some (.inl x3)] [.inl ((5 * x1) + x3), .inr (.inr r1), .inl x2] H = _
    refine Eq.trans (e1 hG PT_162 k162_19 _ _ _) ?_
    refine bdc fun i2 => ?_
    show G 162 20 [some (.inr (.inr x0)), some (.inl x1), some (.inl x2), some (.inl x3)] [.inl i2, .inl x2] H = _
    refine Eq.trans (e1 hG PT_162 k162_20 _ _ _) ?_
    show G 162 21 [some (.inr (.inr x0)), some (.inl x1), some (.inl x2), some (.inl x3)] [.inl (x2 + i2)] H = _
    refine Eq.trans (e1 hG PT_162 k162_21 _ _ _) ?_
    show G 162 22 [some (.inr (.inr x0)), some (.inl x1), some (.inl (x2 + i2)), some (.inl x3)] [] H = _
    refine Eq.trans (e1 hG PT_162 k162_22 _ _ _) ?_
    show G 162 25 [some (.inr (.inr x0)), some (.inl x1), some (.inl (x2 + i2)), some (.inl (x3 + 1))] [] H = _
    refine Eq.trans (e1 hG PT_162 k162_25 _ _ _) ?_
    rfl
-- StepsAheadModel.putIn(IIII)V
theorem PT_163 : PT 163 = pt163 := rfl
theorem k163_0 : lkp pt163 0 = iP 1 (fAld 0) := rfl
theorem k163_1 : lkp pt163 1 = iP 3 (fK (.inl 58)) := rfl
theorem k163_3 : lkp pt163 3 = iP 4 (fIld 2) := rfl
theorem k163_4 : lkp pt163 4 = iP 5 (fK (.inl 0)) := rfl
theorem k163_5 : lkp pt163 5 = iP 7 (fIld 4) := rfl
theorem k163_7 : lkp pt163 7 = iCK 10 12 161 13 5 0 := rfl
theorem k163_10 : lkp pt163 10 = iP 11 (fAld 0) := rfl
theorem k163_11 : lkp pt163 11 = iP 13 (fK (.inl 64)) := rfl
theorem k163_13 : lkp pt163 13 = iP 14 (fIld 2) := rfl
theorem k163_14 : lkp pt163 14 = iP 15 (fK (.inl 1)) := rfl
theorem k163_15 : lkp pt163 15 = iP 17 (fIld 4) := rfl
theorem k163_17 : lkp pt163 17 = iCK 20 12 161 13 5 0 := rfl
theorem k163_20 : lkp pt163 20 = iP 21 (fK (.inl 2)) := rfl
theorem k163_21 : lkp pt163 21 = iP 22 (fAld 0) := rfl
theorem k163_22 : lkp pt163 22 = iRR 25 (gtR 54) := rfl
theorem k163_25 : lkp pt163 25 = iP 26 (fIld 2) := rfl
theorem k163_26 : lkp pt163 26 = iRI 27 qAI := rfl
theorem k163_27 : lkp pt163 27 = iP 28 (f2I (fun x y => x * y)) := rfl
theorem k163_28 : lkp pt163 28 = iP 29 (fIld 3) := rfl
theorem k163_29 : lkp pt163 29 = iP 30 (f2I (fun x y => x + y)) := rfl
theorem k163_30 : lkp pt163 30 = iP 32 (fIst 5) := rfl
theorem k163_32 : lkp pt163 32 = iP 33 (fK (.inl 0)) := rfl
theorem k163_33 : lkp pt163 33 = iP 35 (fIst 6) := rfl
theorem k163_35 : lkp pt163 35 = iP 37 (fIld 6) := rfl
theorem k163_37 : lkp pt163 37 = iP 40 (fK (.inl 252)) := rfl
theorem k163_40 : lkp pt163 40 = iB 43 57 (b2 (fun x y => decide (y ≤ x))) := rfl
theorem k163_43 : lkp pt163 43 = iP 44 (fAld 0) := rfl
theorem k163_44 : lkp pt163 44 = iRR 47 (gtR 71) := rfl
theorem k163_47 : lkp pt163 47 = iP 49 (fIld 6) := rfl
theorem k163_49 : lkp pt163 49 = iP 50 (fK (.inr (.inl 0))) := rfl
theorem k163_50 : lkp pt163 50 = iW 51 wAJ := rfl
theorem k163_51 : lkp pt163 51 = iP 54 (fInc 6 1) := rfl
theorem k163_54 : lkp pt163 54 = iP 35 fGo := rfl
theorem k163_57 : lkp pt163 57 = iP 58 (fK (.inl 0)) := rfl
theorem k163_58 : lkp pt163 58 = iP 60 (fIst 6) := rfl
theorem k163_60 : lkp pt163 60 = iP 62 (fIld 6) := rfl
theorem k163_62 : lkp pt163 62 = iP 65 (fK (.inl 252)) := rfl
theorem k163_65 : lkp pt163 65 = iB 68 241 (b2 (fun x y => decide (y ≤ x))) := rfl
theorem k163_68 : lkp pt163 68 = iP 69 (fAld 0) := rfl
theorem k163_69 : lkp pt163 69 = iRR 72 (gtR 67) := rfl
theorem k163_72 : lkp pt163 72 = iP 75 (fK (.inl 252)) := rfl
theorem k163_75 : lkp pt163 75 = iP 77 (fIld 5) := rfl
theorem k163_77 : lkp pt163 77 = iP 78 (f2I (fun x y => x * y)) := rfl
theorem k163_78 : lkp pt163 78 = iP 80 (fIld 6) := rfl
theorem k163_80 : lkp pt163 80 = iP 81 (f2I (fun x y => x + y)) := rfl
theorem k163_81 : lkp pt163 81 = iRJ 82 qAJ := rfl
theorem k163_82 : lkp pt163 82 = iP 84 (fLst 7) := rfl
theorem k163_84 : lkp pt163 84 = iP 86 (fJld 7) := rfl
theorem k163_86 : lkp pt163 86 = iP 87 (fK (.inr (.inl 0))) := rfl
theorem k163_87 : lkp pt163 87 = iP 88 fLcmp := rfl
theorem k163_88 : lkp pt163 88 = iB 91 235 (b1 (fun x => decide (x = 0))) := rfl
theorem k163_91 : lkp pt163 91 = iP 93 (fK (.inl 58)) := rfl
theorem k163_93 : lkp pt163 93 = iP 94 (fAld 0) := rfl
theorem k163_94 : lkp pt163 94 = iRR 97 (gtR 61) := rfl
theorem k163_97 : lkp pt163 97 = iP 98 (fK (.inl 5)) := rfl
theorem k163_98 : lkp pt163 98 = iP 100 (fIld 6) := rfl
theorem k163_100 : lkp pt163 100 = iP 101 (f2I (fun x y => x * y)) := rfl
theorem k163_101 : lkp pt163 101 = iRI 102 qAI := rfl
theorem k163_102 : lkp pt163 102 = iP 103 (f2I (fun x y => x + y)) := rfl
theorem k163_103 : lkp pt163 103 = iP 105 (fIst 9) := rfl
theorem k163_105 : lkp pt163 105 = iP 107 (fK (.inl 64)) := rfl
theorem k163_107 : lkp pt163 107 = iP 108 (fAld 0) := rfl
theorem k163_108 : lkp pt163 108 = iRR 111 (gtR 61) := rfl
theorem k163_111 : lkp pt163 111 = iP 112 (fK (.inl 5)) := rfl
theorem k163_112 : lkp pt163 112 = iP 114 (fIld 6) := rfl
theorem k163_114 : lkp pt163 114 = iP 115 (f2I (fun x y => x * y)) := rfl
theorem k163_115 : lkp pt163 115 = iP 116 (fK (.inl 1)) := rfl
theorem k163_116 : lkp pt163 116 = iP 117 (f2I (fun x y => x + y)) := rfl
theorem k163_117 : lkp pt163 117 = iRI 118 qAI := rfl
theorem k163_118 : lkp pt163 118 = iP 119 (f2I (fun x y => x + y)) := rfl
theorem k163_119 : lkp pt163 119 = iP 121 (fIst 10) := rfl
theorem k163_121 : lkp pt163 121 = iP 122 (fK (.inl 0)) := rfl
theorem k163_122 : lkp pt163 122 = iP 124 (fIst 11) := rfl
theorem k163_124 : lkp pt163 124 = iP 126 (fIld 11) := rfl
theorem k163_126 : lkp pt163 126 = iP 129 (fK (.inl 252)) := rfl
theorem k163_129 : lkp pt163 129 = iB 132 235 (b2 (fun x y => decide (y ≤ x))) := rfl
theorem k163_132 : lkp pt163 132 = iP 133 (fAld 0) := rfl
theorem k163_133 : lkp pt163 133 = iRR 136 (gtR 67) := rfl
theorem k163_136 : lkp pt163 136 = iP 139 (fK (.inl 252)) := rfl
theorem k163_139 : lkp pt163 139 = iP 141 (fIld 9) := rfl
theorem k163_141 : lkp pt163 141 = iP 142 (f2I (fun x y => x * y)) := rfl
theorem k163_142 : lkp pt163 142 = iP 144 (fIld 11) := rfl
theorem k163_144 : lkp pt163 144 = iP 145 (f2I (fun x y => x + y)) := rfl
theorem k163_145 : lkp pt163 145 = iRJ 146 qAJ := rfl
theorem k163_146 : lkp pt163 146 = iP 148 (fLst 12) := rfl
theorem k163_148 : lkp pt163 148 = iP 149 (fK (.inl 0)) := rfl
theorem k163_149 : lkp pt163 149 = iP 151 (fIst 14) := rfl
theorem k163_151 : lkp pt163 151 = iP 153 (fIld 14) := rfl
theorem k163_153 : lkp pt163 153 = iP 156 (fK (.inl 252)) := rfl
theorem k163_156 : lkp pt163 156 = iB 159 229 (b2 (fun x y => decide (y ≤ x))) := rfl
theorem k163_159 : lkp pt163 159 = iP 161 (fJld 12) := rfl
theorem k163_161 : lkp pt163 161 = iP 162 (fK (.inr (.inl 0))) := rfl
theorem k163_162 : lkp pt163 162 = iP 163 fLcmp := rfl
theorem k163_163 : lkp pt163 163 = iB 166 229 (b1 (fun x => decide (x = 0))) := rfl
theorem k163_166 : lkp pt163 166 = iP 167 (fAld 0) := rfl
theorem k163_167 : lkp pt163 167 = iRR 170 (gtR 67) := rfl
theorem k163_170 : lkp pt163 170 = iP 173 (fK (.inl 252)) := rfl
theorem k163_173 : lkp pt163 173 = iP 175 (fIld 10) := rfl
theorem k163_175 : lkp pt163 175 = iP 176 (f2I (fun x y => x * y)) := rfl
theorem k163_176 : lkp pt163 176 = iP 178 (fIld 14) := rfl
theorem k163_178 : lkp pt163 178 = iP 179 (f2I (fun x y => x + y)) := rfl
theorem k163_179 : lkp pt163 179 = iRJ 180 qAJ := rfl
theorem k163_180 : lkp pt163 180 = iP 182 (fLst 15) := rfl
theorem k163_182 : lkp pt163 182 = iP 184 (fJld 15) := rfl
theorem k163_184 : lkp pt163 184 = iP 185 (fK (.inr (.inl 0))) := rfl
theorem k163_185 : lkp pt163 185 = iP 186 fLcmp := rfl
theorem k163_186 : lkp pt163 186 = iB 189 223 (b1 (fun x => decide (x = 0))) := rfl
theorem k163_189 : lkp pt163 189 = iP 190 (fAld 0) := rfl
theorem k163_190 : lkp pt163 190 = iRR 193 (gtR 71) := rfl
theorem k163_193 : lkp pt163 193 = iP 194 (fAld 0) := rfl
theorem k163_194 : lkp pt163 194 = iRR 197 (gtR 62) := rfl
set_option maxRecDepth 100000 in
theorem k163_197 : lkp pt163 197 = iP 198 (fAld 0) := rfl
set_option maxRecDepth 100000 in
theorem k163_198 : lkp pt163 198 = iP 200 (fIld 11) := rfl
set_option maxRecDepth 100000 in
theorem k163_200 : lkp pt163 200 = iCK 203 12 160 4 2 1 := rfl
set_option maxRecDepth 100000 in
theorem k163_203 : lkp pt163 203 = iP 204 (fAld 0) := rfl
set_option maxRecDepth 100000 in
theorem k163_204 : lkp pt163 204 = iP 206 (fIld 14) := rfl
set_option maxRecDepth 100000 in
theorem k163_206 : lkp pt163 206 = iCK 209 12 160 4 2 1 := rfl
set_option maxRecDepth 100000 in
theorem k163_209 : lkp pt163 209 = iP 210 (f2I (fun x y => x + y)) := rfl
set_option maxRecDepth 100000 in
theorem k163_210 : lkp pt163 210 = iRI 211 qAI := rfl
set_option maxRecDepth 100000 in
theorem k163_211 : lkp pt163 211 = iP 212 fDup2 := rfl
set_option maxRecDepth 100000 in
theorem k163_212 : lkp pt163 212 = iRJ 213 qAJ := rfl
set_option maxRecDepth 100000 in
theorem k163_213 : lkp pt163 213 = iP 215 (fJld 7) := rfl
set_option maxRecDepth 100000 in
theorem k163_215 : lkp pt163 215 = iP 217 (fJld 12) := rfl
set_option maxRecDepth 100000 in
theorem k163_217 : lkp pt163 217 = iP 218 (f2J (fun x y => x * y)) := rfl
set_option maxRecDepth 100000 in
theorem k163_218 : lkp pt163 218 = iP 220 (fJld 15) := rfl
set_option maxRecDepth 100000 in
theorem k163_220 : lkp pt163 220 = iP 221 (f2J (fun x y => x * y)) := rfl
set_option maxRecDepth 100000 in
theorem k163_221 : lkp pt163 221 = iP 222 (f2J (fun x y => x + y)) := rfl
set_option maxRecDepth 100000 in
theorem k163_222 : lkp pt163 222 = iW 223 wAJ := rfl
set_option maxRecDepth 100000 in
theorem k163_223 : lkp pt163 223 = iP 226 (fInc 14 1) := rfl
set_option maxRecDepth 100000 in
theorem k163_226 : lkp pt163 226 = iP 151 fGo := rfl
set_option maxRecDepth 100000 in
theorem k163_229 : lkp pt163 229 = iP 232 (fInc 11 1) := rfl
set_option maxRecDepth 100000 in
theorem k163_232 : lkp pt163 232 = iP 124 fGo := rfl
set_option maxRecDepth 100000 in
theorem k163_235 : lkp pt163 235 = iP 238 (fInc 6 1) := rfl
set_option maxRecDepth 100000 in
theorem k163_238 : lkp pt163 238 = iP 60 fGo := rfl
set_option maxRecDepth 100000 in
theorem k163_241 : lkp pt163 241 = iP 242 (fK (.inl 0)) := rfl
set_option maxRecDepth 100000 in
theorem k163_242 : lkp pt163 242 = iP 244 (fIst 6) := rfl
set_option maxRecDepth 100000 in
theorem k163_244 : lkp pt163 244 = iP 246 (fIld 6) := rfl
set_option maxRecDepth 100000 in
theorem k163_246 : lkp pt163 246 = iP 249 (fK (.inl 252)) := rfl
set_option maxRecDepth 100000 in
theorem k163_249 : lkp pt163 249 = iB 252 278 (b2 (fun x y => decide (y ≤ x))) := rfl
set_option maxRecDepth 100000 in
theorem k163_252 : lkp pt163 252 = iP 253 (fAld 0) := rfl
set_option maxRecDepth 100000 in
theorem k163_253 : lkp pt163 253 = iRR 256 (gtR 67) := rfl
set_option maxRecDepth 100000 in
theorem k163_256 : lkp pt163 256 = iP 259 (fK (.inl 252)) := rfl
set_option maxRecDepth 100000 in
theorem k163_259 : lkp pt163 259 = iP 260 (fIld 1) := rfl
set_option maxRecDepth 100000 in
theorem k163_260 : lkp pt163 260 = iP 261 (f2I (fun x y => x * y)) := rfl
set_option maxRecDepth 100000 in
theorem k163_261 : lkp pt163 261 = iP 263 (fIld 6) := rfl
set_option maxRecDepth 100000 in
theorem k163_263 : lkp pt163 263 = iP 264 (f2I (fun x y => x + y)) := rfl
set_option maxRecDepth 100000 in
theorem k163_264 : lkp pt163 264 = iP 265 (fAld 0) := rfl
set_option maxRecDepth 100000 in
theorem k163_265 : lkp pt163 265 = iRR 268 (gtR 71) := rfl
set_option maxRecDepth 100000 in
theorem k163_268 : lkp pt163 268 = iP 270 (fIld 6) := rfl
set_option maxRecDepth 100000 in
theorem k163_270 : lkp pt163 270 = iRJ 271 qAJ := rfl
set_option maxRecDepth 100000 in
theorem k163_271 : lkp pt163 271 = iW 272 wAJ := rfl
set_option maxRecDepth 100000 in
theorem k163_272 : lkp pt163 272 = iP 275 (fInc 6 1) := rfl
set_option maxRecDepth 100000 in
theorem k163_275 : lkp pt163 275 = iP 244 fGo := rfl
set_option maxRecDepth 100000 in
theorem k163_278 : lkp pt163 278 = iRet rV := rfl
set_option maxRecDepth 100000 in
theorem b163_0 {G : AG} (hG : FIX G) (x0 : Nat) (x1 : Int32) (x2 : Int32) (x3 : Int32) (x4 : Int32) (H : Hp) : G 163 0 [some (.inr (.inr x0)), some (.inl x1), some (.inl x2), some (.inl x3), some (.inl x4), none, none, none, none, none, none, none, none, none, none, none, none] [] H = (bif Nat.beq (H.1 x0).1 12 then (G 161 0 [some (.inr (.inr x0)), some (.inl 58), some (.inl x2), some (.inl 0), some (.inl x4), none, none, none, none, none, none, none, none] [] H).bind fun u1 => (asV u1.1).bind fun _ => bif Nat.beq (u1.2.1 x0).1 12 then (G 161 0 [some (.inr (.inr x0)), some (.inl 64), some (.inl x2), some (.inl 1), some (.inl x4), none, none, none, none, none, none, none, none] [] u1.2).bind fun u2 => (asV u2.1).bind fun _ => (hgR u2.2 x0 54).bind fun r3 => (hAI u2.2 r3 x2).bind fun i4 => G 163 35 [some (.inr (.inr x0)), some (.inl x1), some (.inl x2), some (.inl x3), some (.inl x4), some (.inl ((2 * i4) + x3)), some (.inl 0), none, none, none, none, none, none, none, none, none, none] [] u2.2 else none else none) := by
  refine Eq.trans (e1 hG PT_163 k163_0 _ _ _) ?_
  show G 163 1 [some (.inr (.inr x0)), some (.inl x1), some (.inl x2), some (.inl x3), some (.inl x4), none, none, none, none, none, none, none, none, none, none, none, none] [.inr (.inr x0)] H = _
  refine Eq.trans (e1 hG PT_163 k163_1 _ _ _) ?_
  show G 163 3 [some (.inr (.inr x0)), some (.inl x1), some (.inl x2), some (.inl x3), some (.inl x4), none, none, none, none, none, none, none, none, none, none, none, none] [.inl 58, .inr (.inr x0)] H = _
  refine Eq.trans (e1 hG PT_163 k163_3 _ _ _) ?_
  show G 163 4 [some (.inr (.inr x0)), some (.inl x1), some (.inl x2), some (.inl x3), some (.inl x4), none, none, none, none, none, none, none, none, none, none, none, none] [.inl x2, .inl 58, .inr (.inr x0)] H = _
  refine Eq.trans (e1 hG PT_163 k163_4 _ _ _) ?_
  show G 163 5 [some (.inr (.inr x0)), some (.inl x1), some (.inl x2), some (.inl x3), some (.inl x4), none, none, none, none, none, none, none, none, none, none, none, none] [.inl 0, .inl x2, .inl 58, .inr (.inr x0)] H = _
  refine Eq.trans (e1 hG PT_163 k163_5 _ _ _) ?_
  show G 163 7 [some (.inr (.inr x0)), some (.inl x1), some (.inl x2), some (.inl x3), some (.inl x4), none, none, none, none, none, none, none, none, none, none, none, none] [.inl x4, .inl 0, .inl x2, .inl 58, .inr (.inr x0)] H = _
  refine Eq.trans (e1 hG PT_163 k163_7 _ _ _) ?_
  refine bfc ?_ ?_
  · refine bdc fun u1 => ?_
    refine bdc fun _ => ?_
    show G 163 10 [some (.inr (.inr x0)), some (.inl x1), some (.inl x2), some (.inl x3), some (.inl x4), none, none, none, none, none, none, none, none, none, none, none, none] [] u1.2 = _
    refine Eq.trans (e1 hG PT_163 k163_10 _ _ _) ?_
    show G 163 11 [some (.inr (.inr x0)), some (.inl x1), some (.inl x2), some (.inl x3), some (.inl x4), none, none, none, none, none, none, none, none, none, none, none, none] [.inr (.inr x0)] u1.2 = _
    refine Eq.trans (e1 hG PT_163 k163_11 _ _ _) ?_
    show G 163 13 [some (.inr (.inr x0)), some (.inl x1), some (.inl x2), some (.inl x3), some (.inl x4), none, none, none, none, none, none, none, none, none, none, none, none] [.inl 64, .inr (.inr x0)] u1.2 = _
    refine Eq.trans (e1 hG PT_163 k163_13 _ _ _) ?_
    show G 163 14 [some (.inr (.inr x0)), some (.inl x1), some (.inl x2), some (.inl x3), some (.inl x4), none, none, none, none, none, none, none, none, none, none, none, none] [.inl x2, .inl 64, .inr (.inr x0)] u1.2 = _
    refine Eq.trans (e1 hG PT_163 k163_14 _ _ _) ?_
    show G 163 15 [some (.inr (.inr x0)), some (.inl x1), some (.inl x2), some (.inl x3), some (.inl x4), none, none, none, none, none, none, none, none, none, none, none, none] [.inl 1, .inl x2, .inl 64, .inr (.inr x0)] u1.2 = _
    refine Eq.trans (e1 hG PT_163 k163_15 _ _ _) ?_
    show G 163 17 [some (.inr (.inr x0)), some (.inl x1), some (.inl x2), some (.inl x3), some (.inl x4), none, none, none, none, none, none, none, none, none, none, none, none] [.inl x4, .inl 1, .inl x2, .inl 64, .inr (.inr x0)] u1.2 = _
    refine Eq.trans (e1 hG PT_163 k163_17 _ _ _) ?_
    refine bfc ?_ ?_
    · refine bdc fun u2 => ?_
      refine bdc fun _ => ?_
      show G 163 20 [some (.inr (.inr x0)), some (.inl x1), some (.inl x2), some (.inl x3), some (.inl x4), none, none, none, none, none, none, none, none, none, none, none, none] [] u2.2 = _
      refine Eq.trans (e1 hG PT_163 k163_20 _ _ _) ?_
      show G 163 21 [some (.inr (.inr x0)), some (.inl x1), some (.inl x2), some (.inl x3), some (.inl x4), none, none, none, none, none, none, none, none, none, none, none, none] [.inl 2] u2.2 = _
      refine Eq.trans (e1 hG PT_163 k163_21 _ _ _) ?_
      show G 163 22 [some (.inr (.inr x0)), some (.inl x1), some (.inl x2), some (.inl x3), some (.inl x4), none, none, none, none, none, none, none, none, none, none, none, none] [.inr (.inr x0), .inl 2] u2.2 = _
      refine Eq.trans (e1 hG PT_163 k163_22 _ _ _) ?_
      refine bdc fun r3 => ?_
      show G 163 25 [some (.inr (.inr x0)), some (.inl x1), some (.inl x2), some (.inl x3), some (.inl x4), none, none, none, none, none, none, none, none, none, none, none, none] [.inr (.inr r3), .inl 2] u2.2 = _
      refine Eq.trans (e1 hG PT_163 k163_25 _ _ _) ?_
      show G 163 26 [some (.inr (.inr x0)), some (.inl x1), some (.inl x2), some (.inl x3), some (.inl x4), none, none, none, none, none, none, none, none, none, none, none, none] [.inl x2, .inr (.inr r3), .inl 2] u2.2 = _
      refine Eq.trans (e1 hG PT_163 k163_26 _ _ _) ?_
      refine bdc fun i4 => ?_
      show G 163 27 [some (.inr (.inr x0)), some (.inl x1), some (.inl x2), some (.inl x3), some (.inl x4), none, none, none, none, none, none, none, none, none, none, none, none] [.inl i4, .inl 2] u2.2 = _
      refine Eq.trans (e1 hG PT_163 k163_27 _ _ _) ?_
      show G 163 28 [some (.inr (.inr x0)), some (.inl x1), some (.inl x2), some (.inl x3), some (.inl x4), none, none, none, none, none, none, none, none, none, none, none, none] [.inl (2 * i4)] u2.2 = _
      refine Eq.trans (e1 hG PT_163 k163_28 _ _ _) ?_
      show G 163 29 [some (.inr (.inr x0)), some (.inl x1), some (.inl x2), some (.inl x3), some (.inl x4), none, none, none, none, none, none, none, none, none, none, none, none] [.inl x3, .inl (2 * i4)] u2.2 = _
      refine Eq.trans (e1 hG PT_163 k163_29 _ _ _) ?_
      show G 163 30 [some (.inr (.inr x0)), some (.inl x1), some (.inl x2), some (.inl x3), some (.inl x4), none, none, none, none, none, none, none, none, none, none, none, none] [.inl ((2 * i4) + x3)] u2.2 = _
      refine Eq.trans (e1 hG PT_163 k163_30 _ _ _) ?_
      show G 163 32 [some (.inr (.inr x0)), some (.inl x1), some (.inl x2), some (.inl x3), some (.inl x4), some (.inl ((2 * i4) + x3)), none, none, none, none, none, none, none, none, none, none, none] [] u2.2 = _
      refine Eq.trans (e1 hG PT_163 k163_32 _ _ _) ?_
      show G 163 33 [some (.inr (.inr x0)), some (.inl x1), some (.inl x2), some (.inl x3), some (.inl x4), some (.inl ((2 * i4) + x3)), none, none, none, none, none, none, none, none, none, none, none] [.inl 0] u2.2 = _
      refine Eq.trans (e1 hG PT_163 k163_33 _ _ _) ?_
      rfl
    · rfl
  · rfl
set_option maxRecDepth 100000 in
theorem b163_35 {G : AG} (hG : FIX G) (x0 : Nat) (x1 : Int32) (x2 : Int32) (x3 : Int32) (x4 : Int32) (x5 : Int32) (x6 : Int32) (H : Hp) : G 163 35 [some (.inr (.inr x0)), some (.inl x1), some (.inl x2), some (.inl x3), some (.inl x4), some (.inl x5), some (.inl x6), none, none, none, none, none, none, none, none, none, none] [] H = (bif decide ((252 : Int32) ≤ (x6 : Int32)) then G 163 60 [some (.inr (.inr x0)), some (.inl x1), some (.inl x2), some (.inl x3), some (.inl x4), some (.inl x5), some (.inl 0), none, none, none, none, none, none, none, none, none, none] [] H else (hgR H x0 71).bind fun r1 => (hSJ H r1 x6 0).bind fun H2 => G 163 35 [some (.inr (.inr x0)), some (.inl x1), some (.inl x2), some (.inl x3), some (.inl x4), some (.inl x5), some (.inl (x6 + 1)), none, none, none, none, none, none, none, none, none, none] [] H2) := by
  refine Eq.trans (e1 hG PT_163 k163_35 _ _ _) ?_
  show G 163 37 [some (.inr (.inr x0)), some (.inl x1), some (.inl x2), some (.inl x3), some (.inl x4), some (.inl x5), some (.inl x6), none, none, none, none, none, none, none, none, none, none] [.inl x6] H = _
  refine Eq.trans (e1 hG PT_163 k163_37 _ _ _) ?_
  show G 163 40 [some (.inr (.inr x0)), some (.inl x1), some (.inl x2), some (.inl x3), some (.inl x4), some (.inl x5), some (.inl x6), none, none, none, none, none, none, none, none, none, none] [.inl 252, .inl x6] H = _
  refine Eq.trans (e1 hG PT_163 k163_40 _ _ _) ?_
  refine bfc ?_ ?_
  · show G 163 57 [some (.inr (.inr x0)), some (.inl x1), some (.inl x2), some (.inl x3), some (.inl x4), some (.inl x5), some (.inl x6), none, none, none, none, none, none, none, none, none, none] [] H = _
    refine Eq.trans (e1 hG PT_163 k163_57 _ _ _) ?_
    show G 163 58 [some (.inr (.inr x0)), some (.inl x1), some (.inl x2), some (.inl x3), some (.inl x4), some (.inl x5), some (.inl x6), none, none, none, none, none, none, none, none, none, none] [.inl 0] H = _
    refine Eq.trans (e1 hG PT_163 k163_58 _ _ _) ?_
    rfl
  · show G 163 43 [some (.inr (.inr x0)), some (.inl x1), some (.inl x2), some (.inl x3), some (.inl x4), some (.inl x5), some (.inl x6), none, none, none, none, none, none, none, none, none, none] [] H = _
    refine Eq.trans (e1 hG PT_163 k163_43 _ _ _) ?_
    show G 163 44 [some (.inr (.inr x0)), some (.inl x1), some (.inl x2), some (.inl x3), some (.inl x4), some (.inl x5), some (.inl x6), none, none, none, none, none, none, none, none, none, none] [.inr (.inr x0)] H = _
    refine Eq.trans (e1 hG PT_163 k163_44 _ _ _) ?_
    refine bdc fun r1 => ?_
    show G 163 47 [some (.inr (.inr x0)), some (.inl x1), some (.inl x2), some (.inl x3), some (.inl x4), some (.inl x5), some (.inl x6), none, none, none, none, none, none, none, none, none, none] [.inr (.inr r1)] H = _
    refine Eq.trans (e1 hG PT_163 k163_47 _ _ _) ?_
    show G 163 49 [some (.inr (.inr x0)), some (.inl x1), some (.inl x2), some (.inl x3), some (.inl x4), some (.inl x5), some (.inl x6), none, none, none, none, none, none, none, none, none, none] [.inl x6, .inr (.inr r1)] H = _
    refine Eq.trans (e1 hG PT_163 k163_49 _ _ _) ?_
    show G 163 50 [some (.inr (.inr x0)), some (.inl x1), some (.inl x2), some (.inl x3), some (.inl x4), some (.inl x5), some (.inl x6), none, none, none, none, none, none, none, none, none, none] [.inr (.inl 0), .inl x6, .inr (.inr r1)] H = _
    refine Eq.trans (e1 hG PT_163 k163_50 _ _ _) ?_
    refine bdc fun H2 => ?_
    show G 163 51 [some (.inr (.inr x0)), some (.inl x1), some (.inl x2), some (.inl x3), some (.inl x4), some (.inl x5), some (.inl x6), none, none, none, none, none, none, none, none, none, none] [] H2 = _
    refine Eq.trans (e1 hG PT_163 k163_51 _ _ _) ?_
    show G 163 54 [some (.inr (.inr x0)), some (.inl x1), some (.inl x2), some (.inl x3), some (.inl x4), some (.inl x5), some (.inl (x6 + 1)), none, none, none, none, none, none, none, none, none, none] [] H2 = _
    refine Eq.trans (e1 hG PT_163 k163_54 _ _ _) ?_
    rfl
set_option maxRecDepth 100000 in
theorem b163_60 {G : AG} (hG : FIX G) (x0 : Nat) (x1 : Int32) (x2 : Int32) (x3 : Int32) (x4 : Int32) (x5 : Int32) (x6 : Int32) (o7 : Option AV) (o9 : Option AV) (o10 : Option AV) (o11 : Option AV) (o12 : Option AV) (o14 : Option AV) (o15 : Option AV) (H : Hp) : G 163 60 [some (.inr (.inr x0)), some (.inl x1), some (.inl x2), some (.inl x3), some (.inl x4), some (.inl x5), some (.inl x6), o7, none, o9, o10, o11, o12, none, o14, o15, none] [] H = (bif decide ((252 : Int32) ≤ (x6 : Int32)) then G 163 244 [some (.inr (.inr x0)), some (.inl x1), some (.inl x2), some (.inl x3), some (.inl x4), some (.inl x5), some (.inl 0), o7, none, o9, o10, o11, o12, none, o14, o15, none] [] H else (hgR H x0 67).bind fun r1 => (hAJ H r1 (((252 * x5) + x6))).bind fun j2 => bif decide (((lg_cmp j2 0) : Int32) = 0) then G 163 235 [some (.inr (.inr x0)), some (.inl x1), some (.inl x2), some (.inl x3), some (.inl x4), some (.inl x5), some (.inl x6), some (.inr (.inl j2)), none, o9, o10, o11, o12, none, o14, o15, none] [] H else (hgR H x0 61).bind fun r3 => (hAI H r3 ((5 * x6))).bind fun i4 => (hgR H x0 61).bind fun r5 => (hAI H r5 (((5 * x6) + 1))).bind fun i6 => G 163 124 [some (.inr (.inr x0)), some (.inl x1), some (.inl x2), some (.inl x3), some (.inl x4), some (.inl x5), some (.inl x6), some (.inr (.inl j2)), none, some (.inl (58 + i4)), some (.inl (64 + i6)), some (.inl 0), o12, none, o14, o15, none] [] H) := by
  refine Eq.trans (e1 hG PT_163 k163_60 _ _ _) ?_
  show G 163 62 [some (.inr (.inr x0)), some (.inl x1), some (.inl x2), some (.inl x3), some (.inl x4), some (.inl x5), some (.inl x6), o7, none, o9, o10, o11, o12, none, o14, o15, none] [.inl x6] H = _
  refine Eq.trans (e1 hG PT_163 k163_62 _ _ _) ?_
  show G 163 65 [some (.inr (.inr x0)), some (.inl x1), some (.inl x2), some (.inl x3), some (.inl x4), some (.inl x5), some (.inl x6), o7, none, o9, o10, o11, o12, none, o14, o15, none] [.inl 252, .inl x6] H = _
  refine Eq.trans (e1 hG PT_163 k163_65 _ _ _) ?_
  refine bfc ?_ ?_
  · show G 163 241 [some (.inr (.inr x0)), some (.inl x1), some (.inl x2), some (.inl x3), some (.inl x4), some (.inl x5), some (.inl x6), o7, none, o9, o10, o11, o12, none, o14, o15, none] [] H = _
    refine Eq.trans (e1 hG PT_163 k163_241 _ _ _) ?_
    show G 163 242 [some (.inr (.inr x0)), some (.inl x1), some (.inl x2), some (.inl x3), some (.inl x4), some (.inl x5), some (.inl x6), o7, none, o9, o10, o11, o12, none, o14, o15, none] [.inl 0] H = _
    refine Eq.trans (e1 hG PT_163 k163_242 _ _ _) ?_
    rfl
  · show G 163 68 [some (.inr (.inr x0)), some (.inl x1), some (.inl x2), some (.inl x3), some (.inl x4), some (.inl x5), some (.inl x6), o7, none, o9, o10, o11, o12, none, o14, o15, none] [] H = _
    refine Eq.trans (e1 hG PT_163 k163_68 _ _ _) ?_
    show G 163 69 [some (.inr (.inr x0)), some (.inl x1), some (.inl x2), some (.inl x3), some (.inl x4), some (.inl x5), some (.inl x6), o7, none, o9, o10, o11, o12, none, o14, o15, none] [.inr (.inr x0)] H = _
    refine Eq.trans (e1 hG PT_163 k163_69 _ _ _) ?_
    refine bdc fun r1 => ?_
    show G 163 72 [some (.inr (.inr x0)), some (.inl x1), some (.inl x2), some (.inl x3), some (.inl x4), some (.inl x5), some (.inl x6), o7, none, o9, o10, o11, o12, none, o14, o15, none] [.inr (.inr r1)] H = _
    refine Eq.trans (e1 hG PT_163 k163_72 _ _ _) ?_
    show G 163 75 [some (.inr (.inr x0)), some (.inl x1), some (.inl x2), some (.inl x3), some (.inl x4), some (.inl x5), some (.inl x6), o7, none, o9, o10, o11, o12, none, o14, o15, none] [.inl 252, .inr (.inr r1)] H = _
    refine Eq.trans (e1 hG PT_163 k163_75 _ _ _) ?_
    show G 163 77 [some (.inr (.inr x0)), some (.inl x1), some (.inl x2), some (.inl x3), some (.inl x4), some (.inl x5), some (.inl x6), o7, none, o9, o10, o11, o12, none, o14, o15, none] [.inl x5, .inl 252, .inr (.inr r1)] H = _
    refine Eq.trans (e1 hG PT_163 k163_77 _ _ _) ?_
    show G 163 78 [some (.inr (.inr x0)), some (.inl x1), some (.inl x2), some (.inl x3), some (.inl x4), some (.inl x5), some (.inl x6), o7, none, o9, o10, o11, o12, none, o14, o15, none] [.inl (252 * x5), .inr (.inr r1)] H = _
    refine Eq.trans (e1 hG PT_163 k163_78 _ _ _) ?_
    show G 163 80 [some (.inr (.inr x0)), some (.inl x1), some (.inl x2), some (.inl x3), some (.inl x4), some (.inl x5), some (.inl x6), o7, none, o9, o10, o11, o12, none, o14, o15, none] [.inl x6, .inl (252 * x5), .inr (.inr r1)] H = _
    refine Eq.trans (e1 hG PT_163 k163_80 _ _ _) ?_
    show G 163 81 [some (.inr (.inr x0)), some (.inl x1), some (.inl x2), some (.inl x3), some (.inl x4), some (.inl x5), some (.inl x6), o7, none, o9, o10, o11, o12, none, o14, o15, none] [.inl ((252 * x5) + x6), .inr (.inr r1)] H = _
    refine Eq.trans (e1 hG PT_163 k163_81 _ _ _) ?_
    refine bdc fun j2 => ?_
    show G 163 82 [some (.inr (.inr x0)), some (.inl x1), some (.inl x2), some (.inl x3), some (.inl x4), some (.inl x5), some (.inl x6), o7, none, o9, o10, o11, o12, none, o14, o15, none] [.inr (.inl j2)] H = _
    refine Eq.trans (e1 hG PT_163 k163_82 _ _ _) ?_
    show G 163 84 [some (.inr (.inr x0)), some (.inl x1), some (.inl x2), some (.inl x3), some (.inl x4), some (.inl x5), some (.inl x6), some (.inr (.inl j2)), none, o9, o10, o11, o12, none, o14, o15, none] [] H = _
    refine Eq.trans (e1 hG PT_163 k163_84 _ _ _) ?_
    show G 163 86 [some (.inr (.inr x0)), some (.inl x1), some (.inl x2), some (.inl x3), some (.inl x4), some (.inl x5), some (.inl x6), some (.inr (.inl j2)), none, o9, o10, o11, o12, none, o14, o15, none] [.inr (.inl j2)] H = _
    refine Eq.trans (e1 hG PT_163 k163_86 _ _ _) ?_
    show G 163 87 [some (.inr (.inr x0)), some (.inl x1), some (.inl x2), some (.inl x3), some (.inl x4), some (.inl x5), some (.inl x6), some (.inr (.inl j2)), none, o9, o10, o11, o12, none, o14, o15, none] [.inr (.inl 0), .inr (.inl j2)] H = _
    refine Eq.trans (e1 hG PT_163 k163_87 _ _ _) ?_
    show G 163 88 [some (.inr (.inr x0)), some (.inl x1), some (.inl x2), some (.inl x3), some (.inl x4), some (.inl x5), some (.inl x6), some (.inr (.inl j2)), none, o9, o10, o11, o12, none, o14, o15, none] [.inl (lg_cmp j2 0)] H = _
    refine Eq.trans (e1 hG PT_163 k163_88 _ _ _) ?_
    refine bfc ?_ ?_
    · rfl
    · show G 163 91 [some (.inr (.inr x0)), some (.inl x1), some (.inl x2), some (.inl x3), some (.inl x4), some (.inl x5), some (.inl x6), some (.inr (.inl j2)), none, o9, o10, o11, o12, none, o14, o15, none] [] H = _
      refine Eq.trans (e1 hG PT_163 k163_91 _ _ _) ?_
      show G 163 93 [some (.inr (.inr x0)), some (.inl x1), some (.inl x2), some (.inl x3), some (.inl x4), some (.inl x5), some (.inl x6), some (.inr (.inl j2)), none, o9, o10, o11, o12, none, o14, o15, none] [.inl 58] H = _
      refine Eq.trans (e1 hG PT_163 k163_93 _ _ _) ?_
      show G 163 94 [some (.inr (.inr x0)), some (.inl x1), some (.inl x2), some (.inl x3), some (.inl x4), some (.inl x5), some (.inl x6), some (.inr (.inl j2)), none, o9, o10, o11, o12, none, o14, o15, none] [.inr (.inr x0), .inl 58] H = _
      refine Eq.trans (e1 hG PT_163 k163_94 _ _ _) ?_
      refine bdc fun r3 => ?_
      show G 163 97 [some (.inr (.inr x0)), some (.inl x1), some (.inl x2), some (.inl x3), some (.inl x4), some (.inl x5), some (.inl x6), some (.inr (.inl j2)), none, o9, o10, o11, o12, none, o14, o15, none] [.inr (.inr r3), .inl 58] H = _
      refine Eq.trans (e1 hG PT_163 k163_97 _ _ _) ?_
      show G 163 98 [some (.inr (.inr x0)), some (.inl x1), some (.inl x2), some (.inl x3), some (.inl x4), some (.inl x5), some (.inl x6), some (.inr (.inl j2)), none, o9, o10, o11, o12, none, o14, o15, none] [.inl 5, .inr (.inr r3), .inl 58] H = _
      refine Eq.trans (e1 hG PT_163 k163_98 _ _ _) ?_
      show G 163 100 [some (.inr (.inr x0)), some (.inl x1), some (.inl x2), some (.inl x3), some (.inl x4), some (.inl x5), some (.inl x6), some (.inr (.inl j2)), none, o9, o10, o11, o12, none, o14, o15, none] [.inl x6, .inl 5, .inr (.inr r3), .inl 58] H = _
      refine Eq.trans (e1 hG PT_163 k163_100 _ _ _) ?_
      show G 163 101 [some (.inr (.inr x0)), some (.inl x1), some (.inl x2), some (.inl x3), some (.inl x4), some (.inl x5), some (.inl x6), some (.inr (.inl j2)), none, o9, o10, o11, o12, none, o14, o15, none] [.inl (5 * x6), .inr (.inr r3), .inl 58] H = _
      refine Eq.trans (e1 hG PT_163 k163_101 _ _ _) ?_
      refine bdc fun i4 => ?_
      show G 163 102 [some (.inr (.inr x0)), some (.inl x1), some (.inl x2), some (.inl x3), some (.inl x4), some (.inl x5), some (.inl x6), some (.inr (.inl j2)), none, o9, o10, o11, o12, none, o14, o15, none] [.inl i4, .inl 58] H = _
      refine Eq.trans (e1 hG PT_163 k163_102 _ _ _) ?_
      show G 163 103 [some (.inr (.inr x0)), some (.inl x1), some (.inl x2), some (.inl x3), some (.inl x4), some (.inl x5), some (.inl x6), some (.inr (.inl j2)), none, o9, o10, o11, o12, none, o14, o15, none] [.inl (58 + i4)] H = _
      refine Eq.trans (e1 hG PT_163 k163_103 _ _ _) ?_
      show G 163 105 [some (.inr (.inr x0)), some (.inl x1), some (.inl x2), some (.inl x3), some (.inl x4), some (.inl x5), some (.inl x6), some (.inr (.inl j2)), none, some (.inl (58 + i4)), o10, o11, o12, none, o14, o15, none] [] H = _
      refine Eq.trans (e1 hG PT_163 k163_105 _ _ _) ?_
      show G 163 107 [some (.inr (.inr x0)), some (.inl x1), some (.inl x2), some (.inl x3), some (.inl x4), some (.inl x5), some (.inl x6), some (.inr (.inl j2)), none, some (.inl (58 + i4)), o10, o11, o12, none, o14, o15, none] [.inl 64] H = _
      refine Eq.trans (e1 hG PT_163 k163_107 _ _ _) ?_
      show G 163 108 [some (.inr (.inr x0)), some (.inl x1), some (.inl x2), some (.inl x3), some (.inl x4), some (.inl x5), some (.inl x6), some (.inr (.inl j2)), none, some (.inl (58 + i4)), o10, o11, o12, none, o14, o15, none] [.inr (.inr x0), .inl 64] H = _
      refine Eq.trans (e1 hG PT_163 k163_108 _ _ _) ?_
      refine bdc fun r5 => ?_
      show G 163 111 [some (.inr (.inr x0)), some (.inl x1), some (.inl x2), some (.inl x3), some (.inl x4), some (.inl x5), some (.inl x6), some (.inr (.inl j2)), none, some (.inl (58 + i4)), o10, o11, o12, none, o14, o15, none] [.inr (.inr r5), .inl 64] H = _
      refine Eq.trans (e1 hG PT_163 k163_111 _ _ _) ?_
      show G 163 112 [some (.inr (.inr x0)), some (.inl x1), some (.inl x2), some (.inl x3), some (.inl x4), some (.inl x5), some (.inl x6), some (.inr (.inl j2)), none, some (.inl (58 + i4)), o10, o11, o12, none, o14, o15, none] [.inl 5, .inr (.inr r5), .inl 64] H = _
      refine Eq.trans (e1 hG PT_163 k163_112 _ _ _) ?_
      show G 163 114 [some (.inr (.inr x0)), some (.inl x1), some (.inl x2), some (.inl x3), some (.inl x4), some (.inl x5), some (.inl x6), some (.inr (.inl j2)), none, some (.inl (58 + i4)), o10, o11, o12, none, o14, o15, none] [.inl x6, .inl 5, .inr (.inr r5), .inl 64] H = _
      refine Eq.trans (e1 hG PT_163 k163_114 _ _ _) ?_
      show G 163 115 [some (.inr (.inr x0)), some (.inl x1), some (.inl x2), some (.inl x3), some (.inl x4), some (.inl x5), some (.inl x6), some (.inr (.inl j2)), none, some (.inl (58 + i4)), o10, o11, o12, none, o14, o15, none] [.inl (5 * x6), .inr (.inr r5), .inl 64] H = _
      refine Eq.trans (e1 hG PT_163 k163_115 _ _ _) ?_
      show G 163 116 [some (.inr (.inr x0)), some (.inl x1), some (.inl x2), some (.inl x3), some (.inl x4), some (.inl x5), some (.inl x6), some (.inr (.inl j2)), none, some (.inl (58 + i4)), o10, o11, o12, none, o14, o15, none] [.inl 1, .inl (5 * x6), .inr (.inr r5), .inl 64] H = _
      refine Eq.trans (e1 hG PT_163 k163_116 _ _ _) ?_
      show G 163 117 [some (.inr (.inr x0)), some (.inl x1), some (.inl x2), some (.inl x3), some (.inl x4), some (.inl x5), some (.inl x6), some (.inr (.inl j2)), none, some (.inl (58 + i4)), o10, o11, o12, none, o14, o15, none] [.inl ((5 * x6) + 1), .inr (.inr r5), .inl 64] H = _
      refine Eq.trans (e1 hG PT_163 k163_117 _ _ _) ?_
      refine bdc fun i6 => ?_
      show G 163 118 [some (.inr (.inr x0)), some (.inl x1), some (.inl x2), some (.inl x3), some (.inl x4), some (.inl x5), some (.inl x6), some (.inr (.inl j2)), none, some (.inl (58 + i4)), o10, o11, o12, none, o14, o15, none] [.inl i6, .inl 64] H = _
      refine Eq.trans (e1 hG PT_163 k163_118 _ _ _) ?_
      show G 163 119 [some (.inr (.inr x0)), some (.inl x1), some (.inl x2), some (.inl x3), some (.inl x4), some (.inl x5), some (.inl x6), some (.inr (.inl j2)), none, some (.inl (58 + i4)), o10, o11, o12, none, o14, o15, none] [.inl (64 + i6)] H = _
      refine Eq.trans (e1 hG PT_163 k163_119 _ _ _) ?_
      show G 163 121 [some (.inr (.inr x0)), some (.inl x1), some (.inl x2), some (.inl x3), some (.inl x4), some (.inl x5), some (.inl x6), some (.inr (.inl j2)), none, some (.inl (58 + i4)), some (.inl (64 + i6)), o11, o12, none, o14, o15, none] [] H = _
      refine Eq.trans (e1 hG PT_163 k163_121 _ _ _) ?_
      show G 163 122 [some (.inr (.inr x0)), some (.inl x1), some (.inl x2), some (.inl x3), some (.inl x4), some (.inl x5), some (.inl x6), some (.inr (.inl j2)), none, some (.inl (58 + i4)), some (.inl (64 + i6)), o11, o12, none, o14, o15, none] [.inl 0] H = _
      refine Eq.trans (e1 hG PT_163 k163_122 _ _ _) ?_
      rfl
set_option maxRecDepth 100000 in
theorem b163_124 {G : AG} (hG : FIX G) (x0 : Nat) (x1 : Int32) (x2 : Int32) (x3 : Int32) (x4 : Int32) (x5 : Int32) (x6 : Int32) (x7 : Int64) (x9 : Int32) (x10 : Int32) (x11 : Int32) (o12 : Option AV) (o14 : Option AV) (o15 : Option AV) (H : Hp) : G 163 124 [some (.inr (.inr x0)), some (.inl x1), some (.inl x2), some (.inl x3), some (.inl x4), some (.inl x5), some (.inl x6), some (.inr (.inl x7)), none, some (.inl x9), some (.inl x10), some (.inl x11), o12, none, o14, o15, none] [] H = (bif decide ((252 : Int32) ≤ (x11 : Int32)) then G 163 235 [some (.inr (.inr x0)), some (.inl x1), some (.inl x2), some (.inl x3), some (.inl x4), some (.inl x5), some (.inl x6), some (.inr (.inl x7)), none, some (.inl x9), some (.inl x10), some (.inl x11), o12, none, o14, o15, none] [] H else (hgR H x0 67).bind fun r1 => (hAJ H r1 (((252 * x9) + x11))).bind fun j2 => G 163 151 [some (.inr (.inr x0)), some (.inl x1), some (.inl x2), some (.inl x3), some (.inl x4), some (.inl x5), some (.inl x6), some (.inr (.inl x7)), none, some (.inl x9), some (.inl x10), some (.inl x11), some (.inr (.inl j2)), none, some (.inl 0), o15, none] [] H) := by
  refine Eq.trans (e1 hG PT_163 k163_124 _ _ _) ?_
  show G 163 126 [some (.inr (.inr x0)), some (.inl x1), some (.inl x2), some (.inl x3), some (.inl x4), some (.inl x5), some (.inl x6), some (.inr (.inl x7)), none, some (.inl x9), some (.inl x10), some (.inl x11), o12, none, o14, o15, none] [.inl x11] H = _
  refine Eq.trans (e1 hG PT_163 k163_126 _ _ _) ?_
  show G 163 129 [some (.inr (.inr x0)), some (.inl x1), some (.inl x2), some (.inl x3), some (.inl x4), some (.inl x5), some (.inl x6), some (.inr (.inl x7)), none, some (.inl x9), some (.inl x10), some (.inl x11), o12, none, o14, o15, none] [.inl 252, .inl x11] H = _
  refine Eq.trans (e1 hG PT_163 k163_129 _ _ _) ?_
  refine bfc ?_ ?_
  · rfl
  · show G 163 132 [some (.inr (.inr x0)), some (.inl x1), some (.inl x2), some (.inl x3), some (.inl x4), some (.inl x5), some (.inl x6), some (.inr (.inl x7)), none, some (.inl x9), some (.inl x10), some (.inl x11), o12, none, o14, o15, none] [] H = _
    refine Eq.trans (e1 hG PT_163 k163_132 _ _ _) ?_
    show G 163 133 [some (.inr (.inr x0)), some (.inl x1), some (.inl x2), some (.inl x3), some (.inl x4), some (.inl x5), some (.inl x6), some (.inr (.inl x7)), none, some (.inl x9), some (.inl x10), some (.inl x11), o12, none, o14, o15, none] [.inr (.inr x0)] H = _
    refine Eq.trans (e1 hG PT_163 k163_133 _ _ _) ?_
    refine bdc fun r1 => ?_
    show G 163 136 [some (.inr (.inr x0)), some (.inl x1), some (.inl x2), some (.inl x3), some (.inl x4), some (.inl x5), some (.inl x6), some (.inr (.inl x7)), none, some (.inl x9), some (.inl x10), some (.inl x11), o12, none, o14, o15, none] [.inr (.inr r1)] H = _
    refine Eq.trans (e1 hG PT_163 k163_136 _ _ _) ?_
    show G 163 139 [some (.inr (.inr x0)), some (.inl x1), some (.inl x2), some (.inl x3), some (.inl x4), some (.inl x5), some (.inl x6), some (.inr (.inl x7)), none, some (.inl x9), some (.inl x10), some (.inl x11), o12, none, o14, o15, none] [.inl 252, .inr (.inr r1)] H = _
    refine Eq.trans (e1 hG PT_163 k163_139 _ _ _) ?_
    show G 163 141 [some (.inr (.inr x0)), some (.inl x1), some (.inl x2), some (.inl x3), some (.inl x4), some (.inl x5), some (.inl x6), some (.inr (.inl x7)), none, some (.inl x9), some (.inl x10), some (.inl x11), o12, none, o14, o15, none] [.inl x9, .inl 252, .inr (.inr r1)] H = _
    refine Eq.trans (e1 hG PT_163 k163_141 _ _ _) ?_
    show G 163 142 [some (.inr (.inr x0)), some (.inl x1), some (.inl x2), some (.inl x3), some (.inl x4), some (.inl x5), some (.inl x6), some (.inr (.inl x7)), none, some (.inl x9), some (.inl x10), some (.inl x11), o12, none, o14, o15, none] [.inl (252 * x9), .inr (.inr r1)] H = _
    refine Eq.trans (e1 hG PT_163 k163_142 _ _ _) ?_
    show G 163 144 [some (.inr (.inr x0)), some (.inl x1), some (.inl x2), some (.inl x3), some (.inl x4), some (.inl x5), some (.inl x6), some (.inr (.inl x7)), none, some (.inl x9), some (.inl x10), some (.inl x11), o12, none, o14, o15, none] [.inl x11, .inl (252 * x9), .inr (.inr r1)] H = _
    refine Eq.trans (e1 hG PT_163 k163_144 _ _ _) ?_
    show G 163 145 [some (.inr (.inr x0)), some (.inl x1), some (.inl x2), some (.inl x3), some (.inl x4), some (.inl x5), some (.inl x6), some (.inr (.inl x7)), none, some (.inl x9), some (.inl x10), some (.inl x11), o12, none, o14, o15, none] [.inl ((252 * x9) + x11), .inr (.inr r1)] H = _
    refine Eq.trans (e1 hG PT_163 k163_145 _ _ _) ?_
    refine bdc fun j2 => ?_
    show G 163 146 [some (.inr (.inr x0)), some (.inl x1), some (.inl x2), some (.inl x3), some (.inl x4), some (.inl x5), some (.inl x6), some (.inr (.inl x7)), none, some (.inl x9), some (.inl x10), some (.inl x11), o12, none, o14, o15, none] [.inr (.inl j2)] H = _
    refine Eq.trans (e1 hG PT_163 k163_146 _ _ _) ?_
    show G 163 148 [some (.inr (.inr x0)), some (.inl x1), some (.inl x2), some (.inl x3), some (.inl x4), some (.inl x5), some (.inl x6), some (.inr (.inl x7)), none, some (.inl x9), some (.inl x10), some (.inl x11), some (.inr (.inl j2)), none, o14, o15, none] [] H = _
    refine Eq.trans (e1 hG PT_163 k163_148 _ _ _) ?_
    show G 163 149 [some (.inr (.inr x0)), some (.inl x1), some (.inl x2), some (.inl x3), some (.inl x4), some (.inl x5), some (.inl x6), some (.inr (.inl x7)), none, some (.inl x9), some (.inl x10), some (.inl x11), some (.inr (.inl j2)), none, o14, o15, none] [.inl 0] H = _
    refine Eq.trans (e1 hG PT_163 k163_149 _ _ _) ?_
    rfl
set_option maxRecDepth 100000 in
theorem b163_151 {G : AG} (hG : FIX G) (x0 : Nat) (x1 : Int32) (x2 : Int32) (x3 : Int32) (x4 : Int32) (x5 : Int32) (x6 : Int32) (x7 : Int64) (x9 : Int32) (x10 : Int32) (x11 : Int32) (x12 : Int64) (x14 : Int32) (o15 : Option AV) (H : Hp) : G 163 151 [some (.inr (.inr x0)), some (.inl x1), some (.inl x2), some (.inl x3), some (.inl x4), some (.inl x5), some (.inl x6), some (.inr (.inl x7)), none, some (.inl x9), some (.inl x10), some (.inl x11), some (.inr (.inl x12)), none, some (.inl x14), o15, none] [] H = (bif decide ((252 : Int32) ≤ (x14 : Int32)) then G 163 229 [some (.inr (.inr x0)), some (.inl x1), some (.inl x2), some (.inl x3), some (.inl x4), some (.inl x5), some (.inl x6), some (.inr (.inl x7)), none, some (.inl x9), some (.inl x10), some (.inl x11), some (.inr (.inl x12)), none, some (.inl x14), o15, none] [] H else bif decide (((lg_cmp x12 0) : Int32) = 0) then G 163 229 [some (.inr (.inr x0)), some (.inl x1), some (.inl x2), some (.inl x3), some (.inl x4), some (.inl x5), some (.inl x6), some (.inr (.inl x7)), none, some (.inl x9), some (.inl x10), some (.inl x11), some (.inr (.inl x12)), none, some (.inl x14), o15, none] [] H else (hgR H x0 67).bind fun r1 => (hAJ H r1 (((252 * x10) + x14))).bind fun j2 => bif decide (((lg_cmp j2 0) : Int32) = 0) then G 163 223 [some (.inr (.inr x0)), some (.inl x1), some (.inl x2), some (.inl x3), some (.inl x4), some (.inl x5), some (.inl x6), some (.inr (.inl x7)), none, some (.inl x9), some (.inl x10), some (.inl x11), some (.inr (.inl x12)), none, some (.inl x14), some (.inr (.inl j2)), none] [] H else (hgR H x0 71).bind fun r3 => (hgR H x0 62).bind fun r4 => bif Nat.beq (H.1 x0).1 12 then (G 160 0 [some (.inr (.inr x0)), some (.inl x11), none, none] [] H).bind fun u5 => (asI u5.1).bind fun i6 => bif Nat.beq (u5.2.1 x0).1 12 then (G 160 0 [some (.inr (.inr x0)), some (.inl x14), none, none] [] u5.2).bind fun u7 => (asI u7.1).bind fun i8 => (hAI u7.2 r4 ((i6 + i8))).bind fun i9 => (hAJ u7.2 r3 i9).bind fun j10 => (hSJ u7.2 r3 i9 ((j10 + ((x7 * x12) * j2)))).bind fun H11 => G 163 223 [some (.inr (.inr x0)), some (.inl x1), some (.inl x2), some (.inl x3), some (.inl x4), some (.inl x5), some (.inl x6), some (.inr (.inl x7)), none, some (.inl x9), some (.inl x10), some (.inl x11), some (.inr (.inl x12)), none, some (.inl x14), some (.inr (.inl j2)), none] [] H11 else none else none) := by
  refine Eq.trans (e1 hG PT_163 k163_151 _ _ _) ?_
  show G 163 153 [some (.inr (.inr x0)), some (.inl x1), some (.inl x2), some (.inl x3), some (.inl x4), some (.inl x5), some (.inl x6), some (.inr (.inl x7)), none, some (.inl x9), some (.inl x10), some (.inl x11), some (.inr (.inl x12)), none, some (.inl x14), o15, none] [.inl x14] H = _
  refine Eq.trans (e1 hG PT_163 k163_153 _ _ _) ?_
  show G 163 156 [some (.inr (.inr x0)), some (.inl x1), some (.inl x2), some (.inl x3), some (.inl x4), some (.inl x5), some (.inl x6), some (.inr (.inl x7)), none, some (.inl x9), some (.inl x10), some (.inl x11), some (.inr (.inl x12)), none, some (.inl x14), o15, none] [.inl 252, .inl x14] H = _
  refine Eq.trans (e1 hG PT_163 k163_156 _ _ _) ?_
  refine bfc ?_ ?_
  · rfl
  · show G 163 159 [some (.inr (.inr x0)), some (.inl x1), some (.inl x2), some (.inl x3), some (.inl x4), some (.inl x5), some (.inl x6), some (.inr (.inl x7)), none, some (.inl x9), some (.inl x10), some (.inl x11), some (.inr (.inl x12)), none, some (.inl x14), o15, none] [] H = _
    refine Eq.trans (e1 hG PT_163 k163_159 _ _ _) ?_
    show G 163 161 [some (.inr (.inr x0)), some (.inl x1), some (.inl x2), some (.inl x3), some (.inl x4), some (.inl x5), some (.inl x6), some (.inr (.inl x7)), none, some (.inl x9), some (.inl x10), some (.inl x11), some (.inr (.inl x12)), none, some (.inl x14), o15, none] [.inr (.inl x12)] H = _
    refine Eq.trans (e1 hG PT_163 k163_161 _ _ _) ?_
    show G 163 162 [some (.inr (.inr x0)), some (.inl x1), some (.inl x2), some (.inl x3), some (.inl x4), some (.inl x5), some (.inl x6), some (.inr (.inl x7)), none, some (.inl x9), some (.inl x10), some (.inl x11), some (.inr (.inl x12)), none, some (.inl x14), o15, none] [.inr (.inl 0), .inr (.inl x12)] H = _
    refine Eq.trans (e1 hG PT_163 k163_162 _ _ _) ?_
    show G 163 163 [some (.inr (.inr x0)), some (.inl x1), some (.inl x2), some (.inl x3), some (.inl x4), some (.inl x5), some (.inl x6), some (.inr (.inl x7)), none, some (.inl x9), some (.inl x10), some (.inl x11), some (.inr (.inl x12)), none, some (.inl x14), o15, none] [.inl (lg_cmp x12 0)] H = _
    refine Eq.trans (e1 hG PT_163 k163_163 _ _ _) ?_
    refine bfc ?_ ?_
    · rfl
    · show G 163 166 [some (.inr (.inr x0)), some (.inl x1), some (.inl x2), some (.inl x3), some (.inl x4), some (.inl x5), some (.inl x6), some (.inr (.inl x7)), none, some (.inl x9), some (.inl x10), some (.inl x11), some (.inr (.inl x12)), none, some (.inl x14), o15, none] [] H = _
      refine Eq.trans (e1 hG PT_163 k163_166 _ _ _) ?_
      show G 163 167 [some (.inr (.inr x0)), some (.inl x1), some (.inl x2), some (.inl x3), some (.inl x4), some (.inl x5), some (.inl x6), some (.inr (.inl x7)), none, some (.inl x9), some (.inl x10), some (.inl x11), some (.inr (.inl x12)), none, some (.inl x14), o15, none] [.inr (.inr x0)] H = _
      refine Eq.trans (e1 hG PT_163 k163_167 _ _ _) ?_
      refine bdc fun r1 => ?_
      show G 163 170 [some (.inr (.inr x0)), some (.inl x1), some (.inl x2), some (.inl x3), some (.inl x4), some (.inl x5), some (.inl x6), some (.inr (.inl x7)), none, some (.inl x9), some (.inl x10), some (.inl x11), some (.inr (.inl x12)), none, some (.inl x14), o15, none] [.inr (.inr r1)] H = _
      refine Eq.trans (e1 hG PT_163 k163_170 _ _ _) ?_
      show G 163 173 [some (.inr (.inr x0)), some (.inl x1), some (.inl x2), some (.inl x3), some (.inl x4), some (.inl x5), some (.inl x6), some (.inr (.inl x7)), none, some (.inl x9), some (.inl x10), some (.inl x11), some (.inr (.inl x12)), none, some (.inl x14), o15, none] [.inl 252, .inr (.inr r1)] H = _
      refine Eq.trans (e1 hG PT_163 k163_173 _ _ _) ?_
      show G 163 175 [some (.inr (.inr x0)), some (.inl x1), some (.inl x2), some (.inl x3), some (.inl x4), some (.inl x5), some (.inl x6), some (.inr (.inl x7)), none, some (.inl x9), some (.inl x10), some (.inl x11), some (.inr (.inl x12)), none, some (.inl x14), o15, none] [.inl x10, .inl 252, .inr (.inr r1)] H = _
      refine Eq.trans (e1 hG PT_163 k163_175 _ _ _) ?_
      show G 163 176 [some (.inr (.inr x0)), some (.inl x1), some (.inl x2), some (.inl x3), some (.inl x4), some (.inl x5), some (.inl x6), some (.inr (.inl x7)), none, some (.inl x9), some (.inl x10), some (.inl x11), some (.inr (.inl x12)), none, some (.inl x14), o15, none] [.inl (252 * x10), .inr (.inr r1)] H = _
      refine Eq.trans (e1 hG PT_163 k163_176 _ _ _) ?_
      show G 163 178 [some (.inr (.inr x0)), some (.inl x1), some (.inl x2), some (.inl x3), some (.inl x4), some (.inl x5), some (.inl x6), some (.inr (.inl x7)), none, some (.inl x9), some (.inl x10), some (.inl x11), some (.inr (.inl x12)), none, some (.inl x14), o15, none] [.inl x14, .inl (252 * x10), .inr (.inr r1)] H = _
      refine Eq.trans (e1 hG PT_163 k163_178 _ _ _) ?_
      show G 163 179 [some (.inr (.inr x0)), some (.inl x1), some (.inl x2), some (.inl x3), some (.inl x4), some (.inl x5), some (.inl x6), some (.inr (.inl x7)), none, some (.inl x9), some (.inl x10), some (.inl x11), some (.inr (.inl x12)), none, some (.inl x14), o15, none] [.inl ((252 * x10) + x14), .inr (.inr r1)] H = _
      refine Eq.trans (e1 hG PT_163 k163_179 _ _ _) ?_
      refine bdc fun j2 => ?_
      show G 163 180 [some (.inr (.inr x0)), some (.inl x1), some (.inl x2), some (.inl x3), some (.inl x4), some (.inl x5), some (.inl x6), some (.inr (.inl x7)), none, some (.inl x9), some (.inl x10), some (.inl x11), some (.inr (.inl x12)), none, some (.inl x14), o15, none] [.inr (.inl j2)] H = _
      refine Eq.trans (e1 hG PT_163 k163_180 _ _ _) ?_
      show G 163 182 [some (.inr (.inr x0)), some (.inl x1), some (.inl x2), some (.inl x3), some (.inl x4), some (.inl x5), some (.inl x6), some (.inr (.inl x7)), none, some (.inl x9), some (.inl x10), some (.inl x11), some (.inr (.inl x12)), none, some (.inl x14), some (.inr (.inl j2)), none] [] H = _
      refine Eq.trans (e1 hG PT_163 k163_182 _ _ _) ?_
      show G 163 184 [some (.inr (.inr x0)), some (.inl x1), some (.inl x2), some (.inl x3), some (.inl x4), some (.inl x5), some (.inl x6), some (.inr (.inl x7)), none, some (.inl x9), some (.inl x10), some (.inl x11), some (.inr (.inl x12)), none, some (.inl x14), some (.inr (.inl j2)), none] [.inr (.inl j2)] H = _
      refine Eq.trans (e1 hG PT_163 k163_184 _ _ _) ?_
      show G 163 185 [some (.inr (.inr x0)), some (.inl x1), some (.inl x2), some (.inl x3), some (.inl x4), some (.inl x5), some (.inl x6), some (.inr (.inl x7)), none, some (.inl x9), some (.inl x10), some (.inl x11), some (.inr (.inl x12)), none, some (.inl x14), some (.inr (.inl j2)), none] [.inr (.inl 0), .inr (.inl j2)] H = _
      refine Eq.trans (e1 hG PT_163 k163_185 _ _ _) ?_
      show G 163 186 [some (.inr (.inr x0)), some (.inl x1), some (.inl x2), some (.inl x3), some (.inl x4), some (.inl x5), some (.inl x6), some (.inr (.inl x7)), none, some (.inl x9), some (.inl x10), some (.inl x11), some (.inr (.inl x12)), none, some (.inl x14), some (.inr (.inl j2)), none] [.inl (lg_cmp j2 0)] H = _
      refine Eq.trans (e1 hG PT_163 k163_186 _ _ _) ?_
      refine bfc ?_ ?_
      · rfl
      · show G 163 189 [some (.inr (.inr x0)), some (.inl x1), some (.inl x2), some (.inl x3), some (.inl x4), some (.inl x5), some (.inl x6), some (.inr (.inl x7)), none, some (.inl x9), some (.inl x10), some (.inl x11), some (.inr (.inl x12)), none, some (.inl x14), some (.inr (.inl j2)), none] [] H = _
        refine Eq.trans (e1 hG PT_163 k163_189 _ _ _) ?_
        show G 163 190 [some (.inr (.inr x0)), some (.inl x1), some (.inl x2), some (.inl x3), some (.inl x4), some (.inl x5), some (.inl x6), some (.inr (.inl x7)), none, some (.inl x9), some (.inl x10), some (.inl x11), some (.inr (.inl x12)), none, some (.inl x14), some (.inr (.inl j2)), none] [.inr (.inr x0)] H = _
        refine Eq.trans (e1 hG PT_163 k163_190 _ _ _) ?_
        refine bdc fun r3 => ?_
        show G 163 193 [some (.inr (.inr x0)), some (.inl x1), some (.inl x2), some (.inl x3), some (.inl x4), some (.inl x5), some (.inl x6), some (.inr (.inl x7)), none, some (.inl x9), some (.inl x10), some (.inl x11), some (.inr (.inl x12)), none, some (.inl x14), some (.inr (.inl j2)), none] [.inr (.inr r3)] H = _
        refine Eq.trans (e1 hG PT_163 k163_193 _ _ _) ?_
        show G 163 194 [some (.inr (.inr x0)), some (.inl x1), some (.inl x2), some (.inl x3), some (.inl x4), some (.inl x5), some (.inl x6), some (.inr (.inl x7)), none, some (.inl x9), some (.inl x10), some (.inl x11), some (.inr (.inl x12)), none, some (.inl x14), some (.inr (.inl j2)), none] [.inr (.inr x0), .inr (.inr r3)] H = _
        refine Eq.trans (e1 hG PT_163 k163_194 _ _ _) ?_
        refine bdc fun r4 => ?_
        show G 163 197 [some (.inr (.inr x0)), some (.inl x1), some (.inl x2), some (.inl x3), some (.inl x4), some (.inl x5), some (.inl x6), some (.inr (.inl x7)), none, some (.inl x9), some (.inl x10), some (.inl x11), some (.inr (.inl x12)), none, some (.inl x14), some (.inr (.inl j2)), none] [.inr (.inr r4), .inr (.inr r3)] H = _
        refine Eq.trans (e1 hG PT_163 k163_197 _ _ _) ?_
        show G 163 198 [some (.inr (.inr x0)), some (.inl x1), some (.inl x2), some (.inl x3), some (.inl x4), some (.inl x5), some (.inl x6), some (.inr (.inl x7)), none, some (.inl x9), some (.inl x10), some (.inl x11), some (.inr (.inl x12)), none, some (.inl x14), some (.inr (.inl j2)), none] [.inr (.inr x0), .inr (.inr r4), .inr (.inr r3)] H = _
        refine Eq.trans (e1 hG PT_163 k163_198 _ _ _) ?_
        show G 163 200 [some (.inr (.inr x0)), some (.inl x1), some (.inl x2), some (.inl x3), some (.inl x4), some (.inl x5), some (.inl x6), some (.inr (.inl x7)), none, some (.inl x9), some (.inl x10), some (.inl x11), some (.inr (.inl x12)), none, some (.inl x14), some (.inr (.inl j2)), none] [.inl x11, .inr (.inr x0), .inr (.inr r4), .inr (.inr r3)] H = _
        refine Eq.trans (e1 hG PT_163 k163_200 _ _ _) ?_
        refine bfc ?_ ?_
        · refine bdc fun u5 => ?_
          refine bdc fun i6 => ?_
          show G 163 203 [some (.inr (.inr x0)), some (.inl x1), some (.inl x2), some (.inl x3), some (.inl x4), some (.inl x5), some (.inl x6), some (.inr (.inl x7)), none, some (.inl x9), some (.inl x10), some (.inl x11), some (.inr (.inl x12)), none, some (.inl x14), some (.inr (.inl j2)), none] [.inl i6, .inr (.inr r4), .inr (.inr r3)] u5.2 = _
          refine Eq.trans (e1 hG PT_163 k163_203 _ _ _) ?_
          show G 163 204 [some (.inr (.inr x0)), some (.inl x1), some (.inl x2), some (.inl x3), some (.inl x4), some (.inl x5), some (.inl x6), some (.inr (.inl x7)), none, some (.inl x9), some (.inl x10), some (.inl x11), some (.inr (.inl x12)), none, some (.inl x14), some (.inr (.inl j2)), none] [.inr (.inr x0), .inl i6, .inr (.inr r4), .inr (.inr r3)] u5.2 = _
          refine Eq.trans (e1 hG PT_163 k163_204 _ _ _) ?_
          show G 163 206 [some (.inr (.inr x0)), some (.inl x1), some (.inl x2), some (.inl x3), some (.inl x4), some (.inl x5), some (.inl x6), some (.inr (.inl x7)), none, some (.inl x9), some (.inl x10), some (.inl x11), some (.inr (.inl x12)), none, some (.inl x14), some (.inr (.inl j2)), none] [.inl x14, .inr (.inr x0), .inl i6, .inr (.inr r4), .inr (.inr r3)] u5.2 = _
          refine Eq.trans (e1 hG PT_163 k163_206 _ _ _) ?_
          refine bfc ?_ ?_
          · refine bdc fun u7 => ?_
            refine bdc fun i8 => ?_
            show G 163 209 [some (.inr (.inr x0)), some (.inl x1), some (.inl x2), some (.inl x3), some (.inl x4), some (.inl x5), some (.inl x6), some (.inr (.inl x7)), none, some (.inl x9), some (.inl x10), some (.inl x11), some (.inr (.inl x12)), none, some (.inl x14), some (.inr (.inl j2)), none] [.inl i8, .inl i6, .inr (.inr r4), .inr (.inr r3)] u7.2 = _
            refine Eq.trans (e1 hG PT_163 k163_209 _ _ _) ?_
            show G 163 210 [some (.inr (.inr x0)), some (.inl x1), some (.inl x2), some (.inl x3), some (.inl x4), some (.inl x5), some (.inl x6), some (.inr (.inl x7)), none, some (.inl x9), some (.inl x10), some (.inl x11), some (.inr (.inl x12)), none, some (.inl x14), some (.inr (.inl j2)), none] [.inl (i6 + i8), .inr (.inr r4), .inr (.inr r3)] u7.2 = _
            refine Eq.trans (e1 hG PT_163 k163_210 _ _ _) ?_
            refine bdc fun i9 => ?_
            show G 163 211 [some (.inr (.inr x0)), some (.inl x1), some (.inl x2), some (.inl x3), some (.inl x4), some (.inl x5), some (.inl x6), some (.inr (.inl x7)), none, some (.inl x9), some (.inl x10), some (.inl x11), some (.inr (.inl x12)), none, some (.inl x14), some (.inr (.inl j2)), none] [.inl i9, .inr (.inr r3)] u7.2 = _
            refine Eq.trans (e1 hG PT_163 k163_211 _ _ _) ?_
            show G 163 212 [some (.inr (.inr x0)), some (.inl x1), some (.inl x2), some (.inl x3), some (.inl x4), some (.inl x5), some (.inl x6), some (.inr (.inl x7)), none, some (.inl x9), some (.inl x10), some (.inl x11), some (.inr (.inl x12)), none, some (.inl x14), some (.inr (.inl j2)), none] [.inl i9, .inr (.inr r3), .inl i9, .inr (.inr r3)] u7.2 = _
            refine Eq.trans (e1 hG PT_163 k163_212 _ _ _) ?_
            refine bdc fun j10 => ?_
            show G 163 213 [some (.inr (.inr x0)), some (.inl x1), some (.inl x2), some (.inl x3), some (.inl x4), some (.inl x5), some (.inl x6), some (.inr (.inl x7)), none, some (.inl x9), some (.inl x10), some (.inl x11), some (.inr (.inl x12)), none, some (.inl x14), some (.inr (.inl j2)), none] [.inr (.inl j10), .inl i9, .inr (.inr r3)] u7.2 = _
            refine Eq.trans (e1 hG PT_163 k163_213 _ _ _) ?_
            show G 163 215 [some (.inr (.inr x0)), some (.inl x1), some (.inl x2), some (.inl x3), some (.inl x4), some (.inl x5), some (.inl x6), some (.inr (.inl x7)), none, some (.inl x9), some (.inl x10), some (.inl x11), some (.inr (.inl x12)), none, some (.inl x14), some (.inr (.inl j2)), none] [.inr (.inl x7), .inr (.inl j10), .inl i9, .inr (.inr r3)] u7.2 = _
            refine Eq.trans (e1 hG PT_163 k163_215 _ _ _) ?_
            show G 163 217 [some (.inr (.inr x0)), some (.inl x1), some (.inl x2), some (.inl x3), some (.inl x4), some (.inl x5), some (.inl x6), some (.inr (.inl x7)), none, some (.inl x9), some (.inl x10), some (.inl x11), some (.inr (.inl x12)), none, some (.inl x14), some (.inr (.inl j2)), none] [.inr (.inl x12), .inr (.inl x7), .inr (.inl j10), .inl i9, .inr (.inr r3)] u7.2 = _
            refine Eq.trans (e1 hG PT_163 k163_217 _ _ _) ?_
            show G 163 218 [some (.inr (.inr x0)), some (.inl x1), some (.inl x2), some (.inl x3), some (.inl x4), some (.inl x5), some (.inl x6), some (.inr (.inl x7)), none, some (.inl x9), some (.inl x10), some (.inl x11), some (.inr (.inl x12)), none, some (.inl x14), some (.inr (.inl j2)), none] [.inr (.inl (x7 * x12)), .inr (.inl j10), .inl i9, .inr (.inr r3)] u7.2 = _
            refine Eq.trans (e1 hG PT_163 k163_218 _ _ _) ?_
            show G 163 220 [some (.inr (.inr x0)), some (.inl x1), some (.inl x2), some (.inl x3), some (.inl x4), some (.inl x5), some (.inl x6), some (.inr (.inl x7)), none, some (.inl x9), some (.inl x10), some (.inl x11), some (.inr (.inl x12)), none, some (.inl x14), some (.inr (.inl j2)), none] [.inr (.inl j2), .inr (.inl (x7 * x12)), .inr (.inl j10), .inl i9, .inr (.inr r3)] u7.2 = _
            refine Eq.trans (e1 hG PT_163 k163_220 _ _ _) ?_
            show G 163 221 [some (.inr (.inr x0)), some (.inl x1), some (.inl x2), some (.inl x3), some (.inl x4), some (.inl x5), some (.inl x6), some (.inr (.inl x7)), none, some (.inl x9), some (.inl x10), some (.inl x11), some (.inr (.inl x12)), none, some (.inl x14), some (.inr (.inl j2)), none] [.inr (.inl ((x7 * x12) * j2)), .inr (.inl j10), .inl i9, .inr (.inr r3)] u7.2 = _
            refine Eq.trans (e1 hG PT_163 k163_221 _ _ _) ?_
            show G 163 222 [some (.inr (.inr x0)), some (.inl x1), some (.inl x2), some (.inl x3), some (.inl x4), some (.inl x5), some (.inl x6), some (.inr (.inl x7)), none, some (.inl x9), some (.inl x10), some (.inl x11), some (.inr (.inl x12)), none, some (.inl x14), some (.inr (.inl j2)), none] [.inr (.inl (j10 + ((x7 * x12) * j2))), .inl i9, .inr (.inr r3)] u7.2 = _
            refine Eq.trans (e1 hG PT_163 k163_222 _ _ _) ?_
            refine bdc fun H11 => ?_
            rfl
          · rfl
        · rfl
set_option maxRecDepth 100000 in
theorem b163_223 {G : AG} (hG : FIX G) (x0 : Nat) (x1 : Int32) (x2 : Int32) (x3 : Int32) (x4 : Int32) (x5 : Int32) (x6 : Int32) (x7 : Int64) (x9 : Int32) (x10 : Int32) (x11 : Int32) (x12 : Int64) (x14 : Int32) (x15 : Int64) (H : Hp) : G 163 223 [some (.inr (.inr x0)), some (.inl x1), some (.inl x2), some (.inl x3), some (.inl x4), some (.inl x5), some (.inl x6), some (.inr (.inl x7)), none, some (.inl x9), some (.inl x10), some (.inl x11), some (.inr (.inl x12)), none, some (.inl x14), some (.inr (.inl x15)), none] [] H = (G 163 151 [some (.inr (.inr x0)), some (.inl x1), some (.inl x2), some (.inl x3), some (.inl x4), some (.inl x5), some (.inl x6), some (.inr (.inl x7)), none, some (.inl x9), some (.inl x10), some (.inl x11), some (.inr (.inl x12)), none, some (.inl (x14 + 1)), some (.inr (.inl x15)), none] [] H) := by
  refine Eq.trans (e1 hG PT_163 k163_223 _ _ _) ?_
  show G 163 226 [some (.inr (.inr x0)), some (.inl x1), some (.inl x2), some (.inl x3), some (.inl x4), some (.inl x5), some (.inl x6), some (.inr (.inl x7)), none, some (.inl x9), some (.inl x10), some (.inl x11), some (.inr (.inl x12)), none, some (.inl (x14 + 1)), some (.inr (.inl x15)), none] [] H = _
  refine Eq.trans (e1 hG PT_163 k163_226 _ _ _) ?_
  rfl
set_option maxRecDepth 100000 in
theorem b163_229 {G : AG} (hG : FIX G) (x0 : Nat) (x1 : Int32) (x2 : Int32) (x3 : Int32) (x4 : Int32) (x5 : Int32) (x6 : Int32) (x7 : Int64) (x9 : Int32) (x10 : Int32) (x11 : Int32) (x12 : Int64) (x14 : Int32) (o15 : Option AV) (H : Hp) : G 163 229 [some (.inr (.inr x0)), some (.inl x1), some (.inl x2), some (.inl x3), some (.inl x4), some (.inl x5), some (.inl x6), some (.inr (.inl x7)), none, some (.inl x9), some (.inl x10), some (.inl x11), some (.inr (.inl x12)), none, some (.inl x14), o15, none] [] H = (G 163 124 [some (.inr (.inr x0)), some (.inl x1), some (.inl x2), some (.inl x3), some (.inl x4), some (.inl x5), some (.inl x6), some (.inr (.inl x7)), none, some (.inl x9), some (.inl x10), some (.inl (x11 + 1)), some (.inr (.inl x12)), none, some (.inl x14), o15, none] [] H) := by
  refine Eq.trans (e1 hG PT_163 k163_229 _ _ _) ?_
  show G 163 232 [some (.inr (.inr x0)), some (.inl x1), some (.inl x2), some (.inl x3), some (.inl x4), some (.inl x5), some (.inl x6), some (.inr (.inl x7)), none, some (.inl x9), some (.inl x10), some (.inl (x11 + 1)), some (.inr (.inl x12)), none, some (.inl x14), o15, none] [] H = _
  refine Eq.trans (e1 hG PT_163 k163_232 _ _ _) ?_
  rfl
set_option maxRecDepth 100000 in
theorem b163_235 {G : AG} (hG : FIX G) (x0 : Nat) (x1 : Int32) (x2 : Int32) (x3 : Int32) (x4 : Int32) (x5 : Int32) (x6 : Int32) (x7 : Int64) (o9 : Option AV) (o10 : Option AV) (o11 : Option AV) (o12 : Option AV) (o14 : Option AV) (o15 : Option AV) (H : Hp) : G 163 235 [some (.inr (.inr x0)), some (.inl x1), some (.inl x2), some (.inl x3), some (.inl x4), some (.inl x5), some (.inl x6), some (.inr (.inl x7)), none, o9, o10, o11, o12, none, o14, o15, none] [] H = (G 163 60 [some (.inr (.inr x0)), some (.inl x1), some (.inl x2), some (.inl x3), some (.inl x4), some (.inl x5), some (.inl (x6 + 1)), some (.inr (.inl x7)), none, o9, o10, o11, o12, none, o14, o15, none] [] H) := by
  refine Eq.trans (e1 hG PT_163 k163_235 _ _ _) ?_
  show G 163 238 [some (.inr (.inr x0)), some (.inl x1), some (.inl x2), some (.inl x3), some (.inl x4), some (.inl x5), some (.inl (x6 + 1)), some (.inr (.inl x7)), none, o9, o10, o11, o12, none, o14, o15, none] [] H = _
  refine Eq.trans (e1 hG PT_163 k163_238 _ _ _) ?_
  rfl
set_option maxRecDepth 100000 in
theorem b163_244 {G : AG} (hG : FIX G) (x0 : Nat) (x1 : Int32) (x2 : Int32) (x3 : Int32) (x4 : Int32) (x5 : Int32) (x6 : Int32) (o7 : Option AV) (o9 : Option AV) (o10 : Option AV) (o11 : Option AV) (o12 : Option AV) (o14 : Option AV) (o15 : Option AV) (H : Hp) : G 163 244 [some (.inr (.inr x0)), some (.inl x1), some (.inl x2), some (.inl x3), some (.inl x4), some (.inl x5), some (.inl x6), o7, none, o9, o10, o11, o12, none, o14, o15, none] [] H = (bif decide ((252 : Int32) ≤ (x6 : Int32)) then some (none, H) else (hgR H x0 67).bind fun r1 => (hgR H x0 71).bind fun r2 => (hAJ H r2 x6).bind fun j3 => (hSJ H r1 (((252 * x1) + x6)) j3).bind fun H4 => G 163 244 [some (.inr (.inr x0)), some (.inl x1), some (.inl x2), some (.inl x3), some (.inl x4), some (.inl x5), some (.inl (x6 + 1)), o7, none, o9, o10, o11, o12, none, o14, o15, none] [] H4) := by
  refine Eq.trans (e1 hG PT_163 k163_244 _ _ _) ?_
  show G 163 246 [some (.inr (.inr x0)), some (.inl x1), some (.inl x2), some (.inl x3), some (.inl x4), some (.inl x5), some (.inl x6), o7, none, o9, o10, o11, o12, none, o14, o15, none] [.inl x6] H = _
  refine Eq.trans (e1 hG PT_163 k163_246 _ _ _) ?_
  show G 163 249 [some (.inr (.inr x0)), some (.inl x1), some (.inl x2), some (.inl x3), some (.inl x4), some (.inl x5), some (.inl x6), o7, none, o9, o10, o11, o12, none, o14, o15, none] [.inl 252, .inl x6] H = _
  refine Eq.trans (e1 hG PT_163 k163_249 _ _ _) ?_
  refine bfc ?_ ?_
  · show G 163 278 [some (.inr (.inr x0)), some (.inl x1), some (.inl x2), some (.inl x3), some (.inl x4), some (.inl x5), some (.inl x6), o7, none, o9, o10, o11, o12, none, o14, o15, none] [] H = _
    exact e1 hG PT_163 k163_278 _ _ _
  · show G 163 252 [some (.inr (.inr x0)), some (.inl x1), some (.inl x2), some (.inl x3), some (.inl x4), some (.inl x5), some (.inl x6), o7, none, o9, o10, o11, o12, none, o14, o15, none] [] H = _
    refine Eq.trans (e1 hG PT_163 k163_252 _ _ _) ?_
    show G 163 253 [some (.inr (.inr x0)), some (.inl x1), some (.inl x2), some (.inl x3), some (.inl x4), some (.inl x5), some (.inl x6), o7, none, o9, o10, o11, o12, none, o14, o15, none] [.inr (.inr x0)] H = _
    refine Eq.trans (e1 hG PT_163 k163_253 _ _ _) ?_
    refine bdc fun r1 => ?_
    show G 163 256 [some (.inr (.inr x0)), some (.inl x1), some (.inl x2), some (.inl x3), some (.inl x4), some (.inl x5), some (.inl x6), o7, none, o9, o10, o11, o12, none, o14, o15, none] [.inr (.inr r1)] H = _
    refine Eq.trans (e1 hG PT_163 k163_256 _ _ _) ?_
    show G 163 259 [some (.inr (.inr x0)), some (.inl x1), some (.inl x2), some (.inl x3), some (.inl x4), some (.inl x5), some (.inl x6), o7, none, o9, o10, o11, o12, none, o14, o15, none] [.inl 252, .inr (.inr r1)] H = _
    refine Eq.trans (e1 hG PT_163 k163_259 _ _ _) ?_
    show G 163 260 [some (.inr (.inr x0)), some (.inl x1), some (.inl x2), some (.inl x3), some (.inl x4), some (.inl x5), some (.inl x6), o7, none, o9, o10, o11, o12, none, o14, o15, none] [.inl x1, .inl 252, .inr (.inr r1)] H = _
    refine Eq.trans (e1 hG PT_163 k163_260 _ _ _) ?_
    show G 163 261 [some (.inr (.inr x0)), some (.inl x1), some (.inl x2), some (.inl x3), some (.inl x4), some (.inl x5), some (.inl x6), o7, none, o9, o10, o11, o12, none, o14, o15, none] [.inl (252 * x1), .inr (.inr r1)] H = _
    refine Eq.trans (e1 hG PT_163 k163_261 _ _ _) ?_
    show G 163 263 [some (.inr (.inr x0)), some (.inl x1), some (.inl x2), some (.inl x3), some (.inl x4), some (.inl x5), some (.inl x6), o7, none, o9, o10, o11, o12, none, o14, o15, none] [.inl x6, .inl (252 * x1), .inr (.inr r1)] H = _
    refine Eq.trans (e1 hG PT_163 k163_263 _ _ _) ?_
    show G 163 264 [some (.inr (.inr x0)), some (.inl x1), some (.inl x2), some (.inl x3), some (.inl x4), some (.inl x5), some (.inl x6), o7, none, o9, o10, o11, o12, none, o14, o15, none] [.inl ((252 * x1) + x6), .inr (.inr r1)] H = _
    refine Eq.trans (e1 hG PT_163 k163_264 _ _ _) ?_
    show G 163 265 [some (.inr (.inr x0)), some (.inl x1), some (.inl x2), some (.inl x3), some (.inl x4), some (.inl x5), some (.inl x6), o7, none, o9, o10, o11, o12, none, o14, o15, none] [.inr (.inr x0), .inl ((252 * x1) + x6), .inr (.inr r1)] H = _
    refine Eq.trans (e1 hG PT_163 k163_265 _ _ _) ?_
    refine bdc fun r2 => ?_
    show G 163 268 [some (.inr (.inr x0)), some (.inl x1), some (.inl x2), some (.inl x3), some (.inl x4), some (.inl x5), some (.inl x6), o7, none, o9, o10, o11, o12, none, o14, o15, none] [.inr (.inr r2), .inl ((252 * x1) + x6), .inr (.inr r1)] H = _
    refine Eq.trans (e1 hG PT_163 k163_268 _ _ _) ?_
    show G 163 270 [some (.inr (.inr x0)), some (.inl x1), some (.inl x2), some (.inl x3), some (.inl x4), some (.inl x5), some (.inl x6), o7, none, o9, o10, o11, o12, none, o14, o15, none] [.inl x6, .inr (.inr r2), .inl ((252 * x1) + x6), .inr (.inr r1)] H = _
    refine Eq.trans (e1 hG PT_163 k163_270 _ _ _) ?_
    refine bdc fun j3 => ?_
    show G 163 271 [some (.inr (.inr x0)), some (.inl x1), some (.inl x2), some (.inl x3), some (.inl x4), some (.inl x5), some (.inl x6), o7, none, o9, o10, o11, o12, none, o14, o15, none] [.inr (.inl j3), .inl ((252 * x1) + x6), .inr (.inr r1)] H = _
    refine Eq.trans (e1 hG PT_163 k163_271 _ _ _) ?_
    refine bdc fun H4 => ?_
    show G 163 272 [some (.inr (.inr x0)), some (.inl x1), some (.inl x2), some (.inl x3), some (.inl x4), some (.inl x5), some (.inl x6), o7, none, o9, o10, o11, o12, none, o14, o15, none] [] H4 = _
    refine Eq.trans (e1 hG PT_163 k163_272 _ _ _) ?_
    show G 163 275 [some (.inr (.inr x0)), some (.inl x1), some (.inl x2), some (.inl x3), some (.inl x4), some (.inl x5), some (.inl (x6 + 1)), o7, none, o9, o10, o11, o12, none, o14, o15, none] [] H4 = _
    refine Eq.trans (e1 hG PT_163 k163_275 _ _ _) ?_
    rfl
-- StepsAheadModel.countTerms(I)I
theorem PT_164 : PT 164 = pt164 := rfl
theorem k164_0 : lkp pt164 0 = iP 1 (fK (.inl 0)) := rfl
theorem k164_1 : lkp pt164 1 = iP 2 (fIst 2) := rfl
theorem k164_2 : lkp pt164 2 = iP 3 (fK (.inl 0)) := rfl
theorem k164_3 : lkp pt164 3 = iP 4 (fIst 3) := rfl
theorem k164_4 : lkp pt164 4 = iP 5 (fIld 3) := rfl
theorem k164_5 : lkp pt164 5 = iP 8 (fK (.inl 252)) := rfl
theorem k164_8 : lkp pt164 8 = iB 11 42 (b2 (fun x y => decide (y ≤ x))) := rfl
theorem k164_11 : lkp pt164 11 = iP 12 (fIld 2) := rfl
theorem k164_12 : lkp pt164 12 = iP 13 (fAld 0) := rfl
theorem k164_13 : lkp pt164 13 = iRR 16 (gtR 67) := rfl
theorem k164_16 : lkp pt164 16 = iP 19 (fK (.inl 252)) := rfl
theorem k164_19 : lkp pt164 19 = iP 20 (fIld 1) := rfl
theorem k164_20 : lkp pt164 20 = iP 21 (f2I (fun x y => x * y)) := rfl
theorem k164_21 : lkp pt164 21 = iP 22 (fIld 3) := rfl
theorem k164_22 : lkp pt164 22 = iP 23 (f2I (fun x y => x + y)) := rfl
theorem k164_23 : lkp pt164 23 = iRJ 24 qAJ := rfl
theorem k164_24 : lkp pt164 24 = iP 25 (fK (.inr (.inl 0))) := rfl
theorem k164_25 : lkp pt164 25 = iP 26 fLcmp := rfl
theorem k164_26 : lkp pt164 26 = iB 29 33 (b1 (fun x => decide (x = 0))) := rfl
theorem k164_29 : lkp pt164 29 = iP 30 (fK (.inl 1)) := rfl
theorem k164_30 : lkp pt164 30 = iP 34 fGo := rfl
theorem k164_33 : lkp pt164 33 = iP 34 (fK (.inl 0)) := rfl
theorem k164_34 : lkp pt164 34 = iP 35 (f2I (fun x y => x + y)) := rfl
theorem k164_35 : lkp pt164 35 = iP 36 (fIst 2) := rfl
theorem k164_36 : lkp pt164 36 = iP 39 (fInc 3 1) := rfl
theorem k164_39 : lkp pt164 39 = iP 4 fGo := rfl
theorem k164_42 : lkp pt164 42 = iP 43 (fIld 2) := rfl
theorem k164_43 : lkp pt164 43 = iRet rI := rfl
theorem b164_0 {G : AG} (hG : FIX G) (x0 : Nat) (x1 : Int32) (H : Hp) : G 164 0 [some (.inr (.inr x0)), some (.inl x1), none, none] [] H = (G 164 4 [some (.inr (.inr x0)), some (.inl x1), some (.inl 0), some (.inl 0)] [] H) := by
  refine Eq.trans (e1 hG PT_164 k164_0 _ _ _) ?_
  show G 164 1 [some (.inr (.inr x0)), some (.inl x1), none, none] [.inl 0] H = _
  refine Eq.trans (e1 hG PT_164 k164_1 _ _ _) ?_
  show G 164 2 [some (.inr (.inr x0)), some (.inl x1), some (.inl 0), none] [] H = _
  refine Eq.trans (e1 hG PT_164 k164_2 _ _ _) ?_
  show G 164 3 [some (.inr (.inr x0)), some (.inl x1), some (.inl 0), none] [.inl 0] H = _
  refine Eq.trans (e1 hG PT_164 k164_3 _ _ _) ?_
  rfl
theorem b164_4 {G : AG} (hG : FIX G) (x0 : Nat) (x1 : Int32) (x2 : Int32) (x3 : Int32) (H : Hp) : G 164 4 [some (.inr (.inr x0)), some (.inl x1), some (.inl x2), some (.inl x3)] [] H = (bif decide ((252 : Int32) ≤ (x3 : Int32)) then some (some (.inl x2), H) else (hgR H x0 67).bind fun r1 => (hAJ H r1 (((252 * x1) + x3))).bind fun j2 => bif decide (((lg_cmp j2 0) : Int32) = 0) then G 164 34 [some (.inr (.inr x0)), some (.inl x1), some (.inl x2), some (.inl x3)] [.inl 0, .inl x2] H else G 164 34 [some (.inr (.inr x0)), some (.inl x1), some (.inl x2), some (.inl x3)] [.inl 1, .inl x2] H) := by
  refine Eq.trans (e1 hG PT_164 k164_4 _ _ _) ?_
  show G 164 5 [some (.inr (.inr x0)), some (.inl x1), some (.inl x2), some (.inl x3)] [.inl x3] H = _
  refine Eq.trans (e1 hG PT_164 k164_5 _ _ _) ?_
  show G 164 8 [some (.inr (.inr x0)), some (.inl x1), some (.inl x2), some (.inl x3)] [.inl 252, .inl x3] H = _
  refine Eq.trans (e1 hG PT_164 k164_8 _ _ _) ?_
  refine bfc ?_ ?_
  · show G 164 42 [some (.inr (.inr x0)), some (.inl x1), some (.inl x2), some (.inl x3)] [] H = _
    refine Eq.trans (e1 hG PT_164 k164_42 _ _ _) ?_
    show G 164 43 [some (.inr (.inr x0)), some (.inl x1), some (.inl x2), some (.inl x3)] [.inl x2] H = _
    exact e1 hG PT_164 k164_43 _ _ _
  · show G 164 11 [some (.inr (.inr x0)), some (.inl x1), some (.inl x2), some (.inl x3)] [] H = _
    refine Eq.trans (e1 hG PT_164 k164_11 _ _ _) ?_
    show G 164 12 [some (.inr (.inr x0)), some (.inl x1), some (.inl x2), some (.inl x3)] [.inl x2] H = _
    refine Eq.trans (e1 hG PT_164 k164_12 _ _ _) ?_
    show G 164 13 [some (.inr (.inr x0)), some (.inl x1), some (.inl x2), some (.inl x3)] [.inr (.inr x0), .inl x2] H = _
    refine Eq.trans (e1 hG PT_164 k164_13 _ _ _) ?_
    refine bdc fun r1 => ?_
    show G 164 16 [some (.inr (.inr x0)), some (.inl x1), some (.inl x2), some (.inl x3)] [.inr (.inr r1), .inl x2] H = _
    refine Eq.trans (e1 hG PT_164 k164_16 _ _ _) ?_
    show G 164 19 [some (.inr (.inr x0)), some (.inl x1), some (.inl x2), some (.inl x3)] [.inl 252, .inr (.inr r1), .inl x2] H = _
    refine Eq.trans (e1 hG PT_164 k164_19 _ _ _) ?_
    show G 164 20 [some (.inr (.inr x0)), some (.inl x1), some (.inl x2), some (.inl x3)] [.inl x1, .inl 252, .inr (.inr r1), .inl x2] H = _
    refine Eq.trans (e1 hG PT_164 k164_20 _ _ _) ?_
    show G 164 21 [some (.inr (.inr x0)), some (.inl x1), some (.inl x2), some (.inl x3)] [.inl (252 * x1), .inr (.inr r1), .inl x2] H = _
    refine Eq.trans (e1 hG PT_164 k164_21 _ _ _) ?_
    show G 164 22 [some (.inr (.inr x0)), some (.inl x1), some (.inl x2), some (.inl x3)] [.inl x3, .inl (252 * x1), .inr (.inr r1), .inl x2] H = _
    refine Eq.trans (e1 hG PT_164 k164_22 _ _ _) ?_
    show G 164 23 [some (.inr (.inr x0)), some (.inl x1), some (.inl x2), some (.inl x3)] [.inl ((252 * x1) + x3), .inr (.inr r1), .inl x2] H = _
    refine Eq.trans (e1 hG PT_164 k164_23 _ _ _) ?_
    refine bdc fun j2 => ?_
    show G 164 24 [some (.inr (.inr x0)), some (.inl x1), some (.inl x2), some (.inl x3)] [.inr (.inl j2), .inl x2] H = _
    refine Eq.trans (e1 hG PT_164 k164_24 _ _ _) ?_
    show G 164 25 [some (.inr (.inr x0)), some (.inl x1), some (.inl x2), some (.inl x3)] [.inr (.inl 0), .inr (.inl j2), .inl x2] H = _
    refine Eq.trans (e1 hG PT_164 k164_25 _ _ _) ?_
    show G 164 26 [some (.inr (.inr x0)), some (.inl x1), some (.inl x2), some (.inl x3)] [.inl (lg_cmp j2 0), .inl x2] H = _
    refine Eq.trans (e1 hG PT_164 k164_26 _ _ _) ?_
    refine bfc ?_ ?_
    · show G 164 33 [some (.inr (.inr x0)), some (.inl x1), some (.inl x2), some (.inl x3)] [.inl x2] H = _
      refine Eq.trans (e1 hG PT_164 k164_33 _ _ _) ?_
      rfl
    · show G 164 29 [some (.inr (.inr x0)), some (.inl x1), some (.inl x2), some (.inl x3)] [.inl x2] H = _
      refine Eq.trans (e1 hG PT_164 k164_29 _ _ _) ?_
      show G 164 30 [some (.inr (.inr x0)), some (.inl x1), some (.inl x2), some (.inl x3)] [.inl 1, .inl x2] H = _
      refine Eq.trans (e1 hG PT_164 k164_30 _ _ _) ?_
      rfl
theorem b164_34 {G : AG} (hG : FIX G) (x0 : Nat) (x1 : Int32) (x2 : Int32) (x3 : Int32) (s0 : Int32) (s1 : Int32) (H : Hp) : G 164 34 [some (.inr (.inr x0)), some (.inl x1), some (.inl x2), some (.inl x3)] [.inl s0, .inl s1] H = (G 164 4 [some (.inr (.inr x0)), some (.inl x1), some (.inl (s1 + s0)), some (.inl (x3 + 1))] [] H) := by
  refine Eq.trans (e1 hG PT_164 k164_34 _ _ _) ?_
  show G 164 35 [some (.inr (.inr x0)), some (.inl x1), some (.inl x2), some (.inl x3)] [.inl (s1 + s0)] H = _
  refine Eq.trans (e1 hG PT_164 k164_35 _ _ _) ?_
  show G 164 36 [some (.inr (.inr x0)), some (.inl x1), some (.inl (s1 + s0)), some (.inl x3)] [] H = _
  refine Eq.trans (e1 hG PT_164 k164_36 _ _ _) ?_
  show G 164 39 [some (.inr (.inr x0)), some (.inl x1), some (.inl (s1 + s0)), some (.inl (x3 + 1))] [] H = _
  refine Eq.trans (e1 hG PT_164 k164_39 _ _ _) ?_
  rfl
-- StepsAheadModel.term(IIII)J
theorem PT_165 : PT 165 = pt165 := rfl
theorem k165_0 : lkp pt165 0 = iP 1 (fAld 0) := rfl
theorem k165_1 : lkp pt165 1 = iP 2 (fIld 1) := rfl
theorem k165_2 : lkp pt165 2 = iCK 5 12 132 2 2 1 := rfl
theorem k165_5 : lkp pt165 5 = iB 8 35 (b1 (fun x => decide (x = 0))) := rfl
theorem k165_8 : lkp pt165 8 = iP 9 (fIld 2) := rfl
theorem k165_9 : lkp pt165 9 = iP 10 fI2l := rfl
theorem k165_10 : lkp pt165 10 = iP 11 (fK (.inr (.inl 0))) := rfl
theorem k165_11 : lkp pt165 11 = iP 12 (fK (.inr (.inl 1))) := rfl
theorem k165_12 : lkp pt165 12 = iC 15 130 6 3 1 := rfl
theorem k165_15 : lkp pt165 15 = iB 18 35 (b1 (fun x => decide (x = 0))) := rfl
theorem k165_18 : lkp pt165 18 = iP 19 (fIld 3) := rfl
theorem k165_19 : lkp pt165 19 = iB 22 35 (b1 (fun x => decide (x < 0))) := rfl
theorem k165_22 : lkp pt165 22 = iP 24 (fIld 4) := rfl
theorem k165_24 : lkp pt165 24 = iP 25 fI2l := rfl
theorem k165_25 : lkp pt165 25 = iP 26 (fK (.inr (.inl 0))) := rfl
theorem k165_26 : lkp pt165 26 = iP 29 (fK (.inr (.inl 3))) := rfl
theorem k165_29 : lkp pt165 29 = iC 32 130 6 3 1 := rfl
theorem k165_32 : lkp pt165 32 = iB 35 39 (b1 (fun x => decide (x ≠ 0))) := rfl
theorem k165_35 : lkp pt165 35 = iP 38 (fK (.inr (.inl (-1000001)))) := rfl
theorem k165_38 : lkp pt165 38 = iRet rJ := rfl
theorem k165_39 : lkp pt165 39 = iP 40 (fAld 0) := rfl
theorem k165_40 : lkp pt165 40 = iP 41 (fIld 1) := rfl
theorem k165_41 : lkp pt165 41 = iP 42 (fIld 2) := rfl
theorem k165_42 : lkp pt165 42 = iCK 45 12 152 3 3 1 := rfl
theorem k165_45 : lkp pt165 45 = iP 47 (fIst 5) := rfl
theorem k165_47 : lkp pt165 47 = iP 49 (fIld 5) := rfl
theorem k165_49 : lkp pt165 49 = iB 52 56 (b1 (fun x => decide (x = 0))) := rfl
theorem k165_52 : lkp pt165 52 = iP 54 (fIld 5) := rfl
theorem k165_54 : lkp pt165 54 = iP 55 fI2l := rfl
theorem k165_55 : lkp pt165 55 = iRet rJ := rfl
theorem k165_56 : lkp pt165 56 = iP 57 (fIld 3) := rfl
theorem k165_57 : lkp pt165 57 = iP 59 (fIst 6) := rfl
theorem k165_59 : lkp pt165 59 = iP 60 (fK (.inl 5)) := rfl
theorem k165_60 : lkp pt165 60 = iP 62 (fIst 7) := rfl
theorem k165_62 : lkp pt165 62 = iP 64 (fIld 7) := rfl
theorem k165_64 : lkp pt165 64 = iB 67 184 (b1 (fun x => decide (x < 0))) := rfl
theorem k165_67 : lkp pt165 67 = iP 68 (fK (.inl 5)) := rfl
theorem k165_68 : lkp pt165 68 = iP 70 (fIld 7) := rfl
theorem k165_70 : lkp pt165 70 = iP 71 (f2I (fun x y => x - y)) := rfl
theorem k165_71 : lkp pt165 71 = iP 73 (fIst 8) := rfl
theorem k165_73 : lkp pt165 73 = iP 75 (fIld 8) := rfl
theorem k165_75 : lkp pt165 75 = iB 78 178 (b1 (fun x => decide (x < 0))) := rfl
theorem k165_78 : lkp pt165 78 = iP 79 (fAld 0) := rfl
theorem k165_79 : lkp pt165 79 = iRR 82 (gtR 67) := rfl
theorem k165_82 : lkp pt165 82 = iP 85 (fK (.inl 252)) := rfl
theorem k165_85 : lkp pt165 85 = iP 86 (fK (.inl 2)) := rfl
theorem k165_86 : lkp pt165 86 = iP 87 (fIld 1) := rfl
theorem k165_87 : lkp pt165 87 = iP 88 (f2I (fun x y => x * y)) := rfl
theorem k165_88 : lkp pt165 88 = iP 89 (fIld 2) := rfl
theorem k165_89 : lkp pt165 89 = iP 90 (f2I (fun x y => x + y)) := rfl
theorem k165_90 : lkp pt165 90 = iP 91 (f2I (fun x y => x * y)) := rfl
theorem k165_91 : lkp pt165 91 = iP 92 (fAld 0) := rfl
theorem k165_92 : lkp pt165 92 = iP 94 (fIld 7) := rfl
theorem k165_94 : lkp pt165 94 = iP 96 (fIld 8) := rfl
theorem k165_96 : lkp pt165 96 = iCK 99 12 166 3 3 1 := rfl
theorem k165_99 : lkp pt165 99 = iP 100 (f2I (fun x y => x + y)) := rfl
theorem k165_100 : lkp pt165 100 = iRJ 101 qAJ := rfl
theorem k165_101 : lkp pt165 101 = iP 103 (fLst 9) := rfl
theorem k165_103 : lkp pt165 103 = iP 105 (fJld 9) := rfl
theorem k165_105 : lkp pt165 105 = iP 106 (fK (.inr (.inl 0))) := rfl
theorem k165_106 : lkp pt165 106 = iP 107 fLcmp := rfl
theorem k165_107 : lkp pt165 107 = iB 110 172 (b1 (fun x => decide (x = 0))) := rfl
theorem k165_110 : lkp pt165 110 = iP 112 (fIld 6) := rfl
theorem k165_112 : lkp pt165 112 = iB 115 169 (b1 (fun x => decide (x ≠ 0))) := rfl
theorem k165_115 : lkp pt165 115 = iP 117 (fJld 9) := rfl
theorem k165_117 : lkp pt165 117 = iP 120 (fK (.inr (.inl 8640))) := rfl
theorem k165_120 : lkp pt165 120 = iC 123 167 10 2 2 := rfl
theorem k165_123 : lkp pt165 123 = iP 125 (fLst 11) := rfl
theorem k165_125 : lkp pt165 125 = iP 127 (fIld 4) := rfl
theorem k165_127 : lkp pt165 127 = iB 130 138 (b1 (fun x => decide (x ≠ 0))) := rfl
theorem k165_130 : lkp pt165 130 = iP 132 (fJld 9) := rfl
theorem k165_132 : lkp pt165 132 = iP 134 (fJld 11) := rfl
theorem k165_134 : lkp pt165 134 = iRJ 135 (q2J (fun x y => x / y)) := rfl
theorem k165_135 : lkp pt165 135 = iP 168 fGo := rfl
theorem k165_138 : lkp pt165 138 = iP 140 (fIld 4) := rfl
theorem k165_140 : lkp pt165 140 = iP 141 (fK (.inl 1)) := rfl
theorem k165_141 : lkp pt165 141 = iB 144 153 (b2 (fun x y => decide (x ≠ y))) := rfl
theorem k165_144 : lkp pt165 144 = iP 147 (fK (.inr (.inl 8640))) := rfl
theorem k165_147 : lkp pt165 147 = iP 149 (fJld 11) := rfl
theorem k165_149 : lkp pt165 149 = iRJ 150 (q2J (fun x y => x / y)) := rfl
theorem k165_150 : lkp pt165 150 = iP 168 fGo := rfl
theorem k165_153 : lkp pt165 153 = iP 155 (fIld 4) := rfl
theorem k165_155 : lkp pt165 155 = iP 156 (fK (.inl 2)) := rfl
theorem k165_156 : lkp pt165 156 = iB 159 165 (b2 (fun x y => decide (x ≠ y))) := rfl
theorem k165_159 : lkp pt165 159 = iP 161 (fIld 7) := rfl
theorem k165_161 : lkp pt165 161 = iP 162 fI2l := rfl
theorem k165_162 : lkp pt165 162 = iP 168 fGo := rfl
theorem k165_165 : lkp pt165 165 = iP 167 (fIld 8) := rfl
theorem k165_167 : lkp pt165 167 = iP 168 fI2l := rfl
theorem k165_168 : lkp pt165 168 = iRet rJ := rfl
theorem k165_169 : lkp pt165 169 = iP 172 (fInc 6 (-1)) := rfl
theorem k165_172 : lkp pt165 172 = iP 175 (fInc 8 (-1)) := rfl
theorem k165_175 : lkp pt165 175 = iP 73 fGo := rfl
theorem k165_178 : lkp pt165 178 = iP 181 (fInc 7 (-1)) := rfl
theorem k165_181 : lkp pt165 181 = iP 62 fGo := rfl
theorem k165_184 : lkp pt165 184 = iP 187 (fK (.inr (.inl (-1000001)))) := rfl
theorem k165_187 : lkp pt165 187 = iRet rJ := rfl
set_option maxRecDepth 100000 in
theorem b165_0 {G : AG} (hG : FIX G) (x0 : Nat) (x1 : Int32) (x2 : Int32) (x3 : Int32) (x4 : Int32) (H : Hp) : G 165 0 [some (.inr (.inr x0)), some (.inl x1), some (.inl x2), some (.inl x3), some (.inl x4), none, none, none, none, none, none, none, none] [] H = (bif Nat.beq (H.1 x0).1 12 then (G 132 0 [some (.inr (.inr x0)), some (.inl x1)] [] H).bind fun u1 => (asI u1.1).bind fun i2 => bif decide ((i2 : Int32) = 0) then G 165 35 [some (.inr (.inr x0)), some (.inl x1), some (.inl x2), some (.inl x3), some (.inl x4), none, none, none, none, none, none, none, none] [] u1.2 else (G 130 0 [some (.inr (.inl x2.toInt64)), none, some (.inr (.inl 0)), none, some (.inr (.inl 1)), none] [] u1.2).bind fun u3 => (asI u3.1).bind fun i4 => bif decide ((i4 : Int32) = 0) then G 165 35 [some (.inr (.inr x0)), some (.inl x1), some (.inl x2), some (.inl x3), some (.inl x4), none, none, none, none, none, none, none, none] [] u3.2 else bif decide ((x3 : Int32) < 0) then G 165 35 [some (.inr (.inr x0)), some (.inl x1), some (.inl x2), some (.inl x3), some (.inl x4), none, none, none, none, none, none, none, none] [] u3.2 else (G 130 0 [some (.inr (.inl x4.toInt64)), none, some (.inr (.inl 0)), none, some (.inr (.inl 3)), none] [] u3.2).bind fun u5 => (asI u5.1).bind fun i6 => bif decide ((i6 : Int32) ≠ 0) then bif Nat.beq (u5.2.1 x0).1 12 then (G 152 0 [some (.inr (.inr x0)), some (.inl x1), some (.inl x2)] [] u5.2).bind fun u7 => (asI u7.1).bind fun i8 => bif decide ((i8 : Int32) = 0) then G 165 62 [some (.inr (.inr x0)), some (.inl x1), some (.inl x2), some (.inl x3), some (.inl x4), some (.inl i8), some (.inl x3), some (.inl 5), none, none, none, none, none] [] u7.2 else some (some (.inr (.inl (i8.toInt64))), u7.2) else none else G 165 35 [some (.inr (.inr x0)), some (.inl x1), some (.inl x2), some (.inl x3), some (.inl x4), none, none, none, none, none, none, none, none] [] u5.2 else none) := by
  refine Eq.trans (e1 hG PT_165 k165_0 _ _ _) ?_
  show G 165 1 [some (.inr (.inr x0)), some (.inl x1), some (.inl x2), some (.inl x3), some (.inl x4), none, none, none, none, none, none, none, none] [.inr (.inr x0)] H = _
  refine Eq.trans (e1 hG PT_165 k165_1 _ _ _) ?_
  show G 165 2 [some (.inr (.inr x0)), some (.inl x1), some (.inl x2), some (.inl x3), some (.inl x4), none, none, none, none, none, none, none, none] [.inl x1, .inr (.inr x0)] H = _
  refine Eq.trans (e1 hG PT_165 k165_2 _ _ _) ?_
  refine bfc ?_ ?_
  · refine bdc fun u1 => ?_
    refine bdc fun i2 => ?_
    show G 165 5 [some (.inr (.inr x0)), some (.inl x1), some (.inl x2), some (.inl x3), some (.inl x4), none, none, none, none, none, none, none, none] [.inl i2] u1.2 = _
    refine Eq.trans (e1 hG PT_165 k165_5 _ _ _) ?_
    refine bfc ?_ ?_
    · rfl
    · show G 165 8 [some (.inr (.inr x0)), some (.inl x1), some (.inl x2), some (.inl x3), some (.inl x4), none, none, none, none, none, none, none, none] [] u1.2 = _
      refine Eq.trans (e1 hG PT_165 k165_8 _ _ _) ?_
      show G 165 9 [some (.inr (.inr x0)), some (.inl x1), some (.inl x2), some (.inl x3), some (.inl x4), none, none, none, none, none, none, none, none] [.inl x2] u1.2 = _
      refine Eq.trans (e1 hG PT_165 k165_9 _ _ _) ?_
      show G 165 10 [some (.inr (.inr x0)), some (.inl x1), some (.inl x2), some (.inl x3), some (.inl x4), none, none, none, none, none, none, none, none] [.inr (.inl x2.toInt64)] u1.2 = _
      refine Eq.trans (e1 hG PT_165 k165_10 _ _ _) ?_
      show G 165 11 [some (.inr (.inr x0)), some (.inl x1), some (.inl x2), some (.inl x3), some (.inl x4), none, none, none, none, none, none, none, none] [.inr (.inl 0), .inr (.inl x2.toInt64)] u1.2 = _
      refine Eq.trans (e1 hG PT_165 k165_11 _ _ _) ?_
      show G 165 12 [some (.inr (.inr x0)), some (.inl x1), some (.inl x2), some (.inl x3), some (.inl x4), none, none, none, none, none, none, none, none] [.inr (.inl 1), .inr (.inl 0), .inr (.inl x2.toInt64)] u1.2 = _
      refine Eq.trans (e1 hG PT_165 k165_12 _ _ _) ?_
      refine bdc fun u3 => ?_
      refine bdc fun i4 => ?_
      show G 165 15 [some (.inr (.inr x0)), some (.inl x1), some (.inl x2), some (.inl x3), some (.inl x4), none, none, none, none, none, none, none, none] [.inl i4] u3.2 = _
      refine Eq.trans (e1 hG PT_165 k165_15 _ _ _) ?_
      refine bfc ?_ ?_
      · rfl
      · show G 165 18 [some (.inr (.inr x0)), some (.inl x1), some (.inl x2), some (.inl x3), some (.inl x4), none, none, none, none, none, none, none, none] [] u3.2 = _
        refine Eq.trans (e1 hG PT_165 k165_18 _ _ _) ?_
        show G 165 19 [some (.inr (.inr x0)), some (.inl x1), some (.inl x2), some (.inl x3), some (.inl x4), none, none, none, none, none, none, none, none] [.inl x3] u3.2 = _
        refine Eq.trans (e1 hG PT_165 k165_19 _ _ _) ?_
        refine bfc ?_ ?_
        · rfl
        · show G 165 22 [some (.inr (.inr x0)), some (.inl x1), some (.inl x2), some (.inl x3), some (.inl x4), none, none, none, none, none, none, none, none] [] u3.2 = _
          refine Eq.trans (e1 hG PT_165 k165_22 _ _ _) ?_
          show G 165 24 [some (.inr (.inr x0)), some (.inl x1), some (.inl x2), some (.inl x3), some (.inl x4), none, none, none, none, none, none, none, none] [.inl x4] u3.2 = _
          refine Eq.trans (e1 hG PT_165 k165_24 _ _ _) ?_
          show G 165 25 [some (.inr (.inr x0)), some (.inl x1), some (.inl x2), some (.inl x3), some (.inl x4), none, none, none, none, none, none, none, none] [.inr (.inl x4.toInt64)] u3.2 = _
          refine Eq.trans (e1 hG PT_165 k165_25 _ _ _) ?_
          show G 165 26 [some (.inr (.inr x0)), some (.inl x1), some (.inl x2), some (.inl x3), some (.inl x4), none, none, none, none, none, none, none, none] [.inr (.inl 0), .inr (.inl x4.toInt64)] u3.2 = _
          refine Eq.trans (e1 hG PT_165 k165_26 _ _ _) ?_
          show G 165 29 [some (.inr (.inr x0)), some (.inl x1), some (.inl x2), some (.inl x3), some (.inl x4), none, none, none, none, none, none, none, none] [.inr (.inl 3), .inr (.inl 0), .inr (.inl x4.toInt64)] u3.2 = _
          refine Eq.trans (e1 hG PT_165 k165_29 _ _ _) ?_
          refine bdc fun u5 => ?_
          refine bdc fun i6 => ?_
          show G 165 32 [some (.inr (.inr x0)), some (.inl x1), some (.inl x2), some (.inl x3), some (.inl x4), none, none, none, none, none, none, none, none] [.inl i6] u5.2 = _
          refine Eq.trans (e1 hG PT_165 k165_32 _ _ _) ?_
          refine bfc ?_ ?_
          · show G 165 39 [some (.inr (.inr x0)), some (.inl x1), some (.inl x2), some (.inl x3), some (.inl x4), none, none, none, none, none, none, none, none] [] u5.2 = _
            refine Eq.trans (e1 hG PT_165 k165_39 _ _ _) ?_
            show G 165 40 [some (.inr (.inr x0)), some (.inl x1), some (.inl x2), some (.inl x3), some (.inl x4), none, none, none, none, none, none, none, none] [.inr (.inr x0)] u5.2 = _
            refine Eq.trans (e1 hG PT_165 k165_40 _ _ _) ?_
            show G 165 41 [some (.inr (.inr x0)), some (.inl x1), some (.inl x2), some (.inl x3), some (.inl x4), none, none, none, none, none, none, none, none] [.inl x1, .inr (.inr x0)] u5.2 = _
            refine Eq.trans (e1 hG PT_165 k165_41 _ _ _) ?_
            show G 165 42 [some (.inr (.inr x0)), some (.inl x1), some (.inl x2), some (.inl x3), some (.inl x4), none, none, none, none, none, none, none, none] [.inl x2, .inl x1, .inr (.inr x0)] u5.2 = _
            refine Eq.trans (e1 hG PT_165 k165_42 _ _ _) ?_
            refine bfc ?_ ?_
            · refine bdc fun u7 => ?_
              refine bdc fun i8 => ?_
              show G 165 45 [some (.inr (.inr x0)), some (.inl x1), some (.inl x2), some (.inl x3), some (.inl x4), none, none, none, none, none, none, none, none] [.inl i8] u7.2 = _
              refine Eq.trans (e1 hG PT_165 k165_45 _ _ _) ?_
              show G 165 47 [some (.inr (.inr x0)), some (.inl x1), some (.inl x2), some (.inl x3), some (.inl x4), some (.inl i8), none, none, none, none, none, none, none] [] u7.2 = _
              refine Eq.trans (e1 hG PT_165 k165_47 _ _ _) ?_
              show G 165 49 [some (.inr (.inr x0)), some (.inl x1), some (.inl x2), some (.inl x3), some (.inl x4), some (.inl i8), none, none, none, none, none, none, none] [.inl i8] u7.2 = _
              refine Eq.trans (e1 hG PT_165 k165_49 _ _ _) ?_
              refine bfc ?_ ?_
              · show G 165 56 [some (.inr (.inr x0)), some (.inl x1), some (.inl x2), some (.inl x3), some (.inl x4), some (.inl i8), none, none, none, none, none, none, none] [] u7.2 = _
                refine Eq.trans (e1 hG PT_165 k165_56 _ _ _) ?_
                show G 165 57 [some (.inr (.inr x0)), some (.inl x1), some (.inl x2), some (.inl x3), some (.inl x4), some (.inl i8), none, none, none, none, none, none, none] [.inl x3] u7.2 = _
                refine Eq.trans (e1 hG PT_165 k165_57 _ _ _) ?_
                show G 165 59 [some (.inr (.inr x0)), some (.inl x1), some (.inl x2), some (.inl x3), some (.inl x4), some (.inl i8), some (.inl x3), none, none, none, none, none, none] [] u7.2 = _
                refine Eq.trans (e1 hG PT_165 k165_59 _ _ _) ?_
                show G 165 60 [some (.inr (.inr x0)), some (.inl x1), some (.inl x2), some (.inl x3), some (.inl x4), some (.inl i8), some (.inl x3), none, none, none, none, none, none] [.inl 5] u7.2 = _
                refine Eq.trans (e1 hG PT_165 k165_60 _ _ _) ?_
                rfl
              · show G 165 52 [some (.inr (.inr x0)), some (.inl x1), some (.inl x2), some (.inl x3), some (.inl x4), some (.inl i8), none, none, none, none, none, none, none] [] u7.2 = _
                refine Eq.trans (e1 hG PT_165 k165_52 _ _ _) ?_
                show G 165 54 [some (.inr (.inr x0)), some (.inl x1), some (.inl x2), some (.inl x3), some (.inl x4), some (.inl i8), none, none, none, none, none, none, none] [.inl i8] u7.2 = _
                refine Eq.trans (e1 hG PT_165 k165_54 _ _ _) ?_
                show G 165 55 [some (.inr (.inr x0)), some (.inl x1), some (.inl x2), some (.inl x3), some (.inl x4), some (.inl i8), none, none, none, none, none, none, none] [.inr (.inl i8.toInt64)] u7.2 = _
                exact e1 hG PT_165 k165_55 _ _ _
            · rfl
          · rfl
  · rfl
set_option maxRecDepth 100000 in
theorem b165_35 {G : AG} (hG : FIX G) (x0 : Nat) (x1 : Int32) (x2 : Int32) (x3 : Int32) (x4 : Int32) (H : Hp) : G 165 35 [some (.inr (.inr x0)), some (.inl x1), some (.inl x2), some (.inl x3), some (.inl x4), none, none, none, none, none, none, none, none] [] H = (some (some (.inr (.inl ((-1000001)))), H)) := by
  refine Eq.trans (e1 hG PT_165 k165_35 _ _ _) ?_
  show G 165 38 [some (.inr (.inr x0)), some (.inl x1), some (.inl x2), some (.inl x3), some (.inl x4), none, none, none, none, none, none, none, none] [.inr (.inl (-1000001))] H = _
  exact e1 hG PT_165 k165_38 _ _ _
set_option maxRecDepth 100000 in
theorem b165_62 {G : AG} (hG : FIX G) (x0 : Nat) (x1 : Int32) (x2 : Int32) (x3 : Int32) (x4 : Int32) (x5 : Int32) (x6 : Int32) (x7 : Int32) (o8 : Option AV) (o9 : Option AV) (H : Hp) : G 165 62 [some (.inr (.inr x0)), some (.inl x1), some (.inl x2), some (.inl x3), some (.inl x4), some (.inl x5), some (.inl x6), some (.inl x7), o8, o9, none, none, none] [] H = (bif decide ((x7 : Int32) < 0) then some (some (.inr (.inl ((-1000001)))), H) else G 165 73 [some (.inr (.inr x0)), some (.inl x1), some (.inl x2), some (.inl x3), some (.inl x4), some (.inl x5), some (.inl x6), some (.inl x7), some (.inl (5 - x7)), o9, none, none, none] [] H) := by
  refine Eq.trans (e1 hG PT_165 k165_62 _ _ _) ?_
  show G 165 64 [some (.inr (.inr x0)), some (.inl x1), some (.inl x2), some (.inl x3), some (.inl x4), some (.inl x5), some (.inl x6), some (.inl x7), o8, o9, none, none, none] [.inl x7] H = _
  refine Eq.trans (e1 hG PT_165 k165_64 _ _ _) ?_
  refine bfc ?_ ?_
  · show G 165 184 [some (.inr (.inr x0)), some (.inl x1), some (.inl x2), some (.inl x3), some (.inl x4), some (.inl x5), some (.inl x6), some (.inl x7), o8, o9, none, none, none] [] H = _
    refine Eq.trans (e1 hG PT_165 k165_184 _ _ _) ?_
    show G 165 187 [some (.inr (.inr x0)), some (.inl x1), some (.inl x2), some (.inl x3), some (.inl x4), some (.inl x5), some (.inl x6), some (.inl x7), o8, o9, none, none, none] [.inr (.inl (-1000001))] H = _
    exact e1 hG PT_165 k165_187 _ _ _
  · show G 165 67 [some (.inr (.inr x0)), some (.inl x1), some (.inl x2), some (.inl x3), some (.inl x4), some (.inl x5), some (.inl x6), some (.inl x7), o8, o9, none, none, none] [] H = _
    refine Eq.trans (e1 hG PT_165 k165_67 _ _ _) ?_
    show G 165 68 [some (.inr (.inr x0)), some (.inl x1), some (.inl x2), some (.inl x3), some (.inl x4), some (.inl x5), some (.inl x6), some (.inl x7), o8, o9, none, none, none] [.inl 5] H = _
    refine Eq.trans (e1 hG PT_165 k165_68 _ _ _) ?_
    show G 165 70 [some (.inr (.inr x0)), some (.inl x1), some (.inl x2), some (.inl x3), some (.inl x4), some (.inl x5), some (.inl x6), some (.inl x7), o8, o9, none, none, none] [.inl x7, .inl 5] H = _
    refine Eq.trans (e1 hG PT_165 k165_70 _ _ _) ?_
    show G 165 71 [some (.inr (.inr x0)), some (.inl x1), some (.inl x2), some (.inl x3), some (.inl x4), some (.inl x5), some (.inl x6), some (.inl x7), o8, o9, none, none, none] [.inl (5 - x7)] H = _
    refine Eq.trans (e1 hG PT_165 k165_71 _ _ _) ?_
    rfl
set_option maxRecDepth 100000 in
theorem b165_73 {G : AG} (hG : FIX G) (x0 : Nat) (x1 : Int32) (x2 : Int32) (x3 : Int32) (x4 : Int32) (x5 : Int32) (x6 : Int32) (x7 : Int32) (x8 : Int32) (o9 : Option AV) (H : Hp) : G 165 73 [some (.inr (.inr x0)), some (.inl x1), some (.inl x2), some (.inl x3), some (.inl x4), some (.inl x5), some (.inl x6), some (.inl x7), some (.inl x8), o9, none, none, none] [] H = (bif decide ((x8 : Int32) < 0) then G 165 62 [some (.inr (.inr x0)), some (.inl x1), some (.inl x2), some (.inl x3), some (.inl x4), some (.inl x5), some (.inl x6), some (.inl (x7 + (-1))), some (.inl x8), o9, none, none, none] [] H else (hgR H x0 67).bind fun r1 => bif Nat.beq (H.1 x0).1 12 then (G 166 0 [some (.inr (.inr x0)), some (.inl x7), some (.inl x8)] [] H).bind fun u2 => (asI u2.1).bind fun i3 => (hAJ u2.2 r1 (((252 * ((2 * x1) + x2)) + i3))).bind fun j4 => bif decide (((lg_cmp j4 0) : Int32) = 0) then G 165 172 [some (.inr (.inr x0)), some (.inl x1), some (.inl x2), some (.inl x3), some (.inl x4), some (.inl x5), some (.inl x6), some (.inl x7), some (.inl x8), some (.inr (.inl j4)), none, none, none] [] u2.2 else bif decide ((x6 : Int32) ≠ 0) then G 165 172 [some (.inr (.inr x0)), some (.inl x1), some (.inl x2), some (.inl x3), some (.inl x4), some (.inl x5), some (.inl (x6 + (-1))), some (.inl x7), some (.inl x8), some (.inr (.inl j4)), none, none, none] [] u2.2 else (G 167 0 [some (.inr (.inl j4)), none, some (.inr (.inl 8640)), none, none, none, none, none, none, none] [] u2.2).bind fun u5 => (asJ u5.1).bind fun j6 => bif decide ((x4 : Int32) ≠ 0) then bif decide ((x4 : Int32) ≠ (1 : Int32)) then bif decide ((x4 : Int32) ≠ (2 : Int32)) then G 165 168 [some (.inr (.inr x0)), some (.inl x1), some (.inl x2), some (.inl x3), some (.inl x4), some (.inl x5), some (.inl x6), some (.inl x7), some (.inl x8), some (.inr (.inl j4)), none, some (.inr (.inl j6)), none] [.inr (.inl x8.toInt64)] u5.2 else G 165 168 [some (.inr (.inr x0)), some (.inl x1), some (.inl x2), some (.inl x3), some (.inl x4), some (.inl x5), some (.inl x6), some (.inl x7), some (.inl x8), some (.inr (.inl j4)), none, some (.inr (.inl j6)), none] [.inr (.inl x7.toInt64)] u5.2 else ((if (j6 : Int64) = 0 then none else some (8640 / j6))).bind fun j7 => G 165 168 [some (.inr (.inr x0)), some (.inl x1), some (.inl x2), some (.inl x3), some (.inl x4), some (.inl x5), some (.inl x6), some (.inl x7), some (.inl x8), some (.inr (.inl j4)), none, some (.inr (.inl j6)), none] [.inr (.inl j7)] u5.2 else ((if (j6 : Int64) = 0 then none else some (j4 / j6))).bind fun j8 => G 165 168 [some (.inr (.inr x0)), some (.inl x1), some (.inl x2), some (.inl x3), some (.inl x4), some (.inl x5), some (.inl x6), some (.inl x7), some (.inl x8), some (.inr (.inl j4)), none, some (.inr (.inl j6)), none] [.inr (.inl j8)] u5.2 else none) := by
  refine Eq.trans (e1 hG PT_165 k165_73 _ _ _) ?_
  show G 165 75 [some (.inr (.inr x0)), some (.inl x1), some (.inl x2), some (.inl x3), some (.inl x4), some (.inl x5), some (.inl x6), some (.inl x7), some (.inl x8), o9, none, none, none] [.inl x8] H = _
  refine Eq.trans (e1 hG PT_165 k165_75 _ _ _) ?_
  refine bfc ?_ ?_
  · show G 165 178 [some (.inr (.inr x0)), some (.inl x1), some (.inl x2), some (.inl x3), some (.inl x4), some (.inl x5), some (.inl x6), some (.inl x7), some (.inl x8), o9, none, none, none] [] H = _
    refine Eq.trans (e1 hG PT_165 k165_178 _ _ _) ?_
    show G 165 181 [some (.inr (.inr x0)), some (.inl x1), some (.inl x2), some (.inl x3), some (.inl x4), some (.inl x5), some (.inl x6), some (.inl (x7 + (-1))), some (.inl x8), o9, none, none, none] [] H = _
    refine Eq.trans (e1 hG PT_165 k165_181 _ _ _) ?_
    rfl
  · show G 165 78 [some (.inr (.inr x0)), some (.inl x1), some (.inl x2), some (.inl x3), some (.inl x4), some (.inl x5), some (.inl x6), some (.inl x7), some (.inl x8), o9, none, none, none] [] H = _
    refine Eq.trans (e1 hG PT_165 k165_78 _ _ _) ?_
    show G 165 79 [some (.inr (.inr x0)), some (.inl x1), some (.inl x2), some (.inl x3), some (.inl x4), some (.inl x5), some (.inl x6), some (.inl x7), some (.inl x8), o9, none, none, none] [.inr (.inr x0)] H = _
    refine Eq.trans (e1 hG PT_165 k165_79 _ _ _) ?_
    refine bdc fun r1 => ?_
    show G 165 82 [some (.inr (.inr x0)), some (.inl x1), some (.inl x2), some (.inl x3), some (.inl x4), some (.inl x5), some (.inl x6), some (.inl x7), some (.inl x8), o9, none, none, none] [.inr (.inr r1)] H = _
    refine Eq.trans (e1 hG PT_165 k165_82 _ _ _) ?_
    show G 165 85 [some (.inr (.inr x0)), some (.inl x1), some (.inl x2), some (.inl x3), some (.inl x4), some (.inl x5), some (.inl x6), some (.inl x7), some (.inl x8), o9, none, none, none] [.inl 252, .inr (.inr r1)] H = _
    refine Eq.trans (e1 hG PT_165 k165_85 _ _ _) ?_
    show G 165 86 [some (.inr (.inr x0)), some (.inl x1), some (.inl x2), some (.inl x3), some (.inl x4), some (.inl x5), some (.inl x6), some (.inl x7), some (.inl x8), o9, none, none, none] [.inl 2, .inl 252, .inr (.inr r1)] H = _
    refine Eq.trans (e1 hG PT_165 k165_86 _ _ _) ?_
    show G 165 87 [some (.inr (.inr x0)), some (.inl x1), some (.inl x2), some (.inl x3), some (.inl x4), some (.inl x5), some (.inl x6), some (.inl x7), some (.inl x8), o9, none, none, none] [.inl x1, .inl 2, .inl 252, .inr (.inr r1)] H = _
    refine Eq.trans (e1 hG PT_165 k165_87 _ _ _) ?_
    show G 165 88 [some (.inr (.inr x0)), some (.inl x1), some (.inl x2), some (.inl x3), some (.inl x4), some (.inl x5), some (.inl x6), some (.inl x7), some (.inl x8), o9, none, none, none] [.inl (2 * x1), .inl 252, .inr (.inr r1)] H = _
    refine Eq.trans (e1 hG PT_165 k165_88 _ _ _) ?_
    show G 165 89 [some (.inr (.inr x0)), some (.inl x1), some (.inl x2), some (.inl x3), some (.inl x4), some (.inl x5), some (.inl x6), some (.inl x7), some (.inl x8), o9, none, none, none] [.inl x2, .inl (2 * x1), .inl 252, .inr (.inr r1)] H = _
    refine Eq.trans (e1 hG PT_165 k165_89 _ _ _) ?_
    show G 165 90 [some (.inr (.inr x0)), some (.inl x1), some (.inl x2), some (.inl x3), some (.inl x4), some (.inl x5), some (.inl x6), some (.inl x7), some (.inl x8), o9, none, none, none] [.inl ((2 * x1) + x2), .inl 252, .inr (.inr r1)] H = _
    refine Eq.trans (e1 hG PT_165 k165_90 _ _ _) ?_
    show G 165 91 [some (.inr (.inr x0)), some (.inl x1), some (.inl x2), some (.inl x3), some (.inl x4), some (.inl x5), some (.inl x6), some (.inl x7), some (.inl x8), o9, none, none, none] [.inl (252 * ((2 * x1) + x2)), .inr (.inr r1)] H = _
    refine Eq.trans (e1 hG PT_165 k165_91 _ _ _) ?_
    show G 165 92 [some (.inr (.inr x0)), some (.inl x1), some (.inl x2), some (.inl x3), some (.inl x4), some (.inl x5), some (.inl x6), some (.inl x7), some (.inl x8), o9, none, none, none] [.inr (.inr x0), .inl (252 * ((2 * x1) + x2)), .inr (.inr r1)] H = _
    refine Eq.trans (e1 hG PT_165 k165_92 _ _ _) ?_
    show G 165 94 [some (.inr (.inr x0)), some (.inl x1), some (.inl x2), some (.inl x3), some (.inl x4), some (.inl x5), some (.inl x6), some (.inl x7), some (.inl x8), o9, none, none, none] [.inl x7, .inr (.inr x0), .inl (252 * ((2 * x1) + x2)), .inr (.inr r1)] H = _
    refine Eq.trans (e1 hG PT_165 k165_94 _ _ _) ?_
    show G 165 96 [some (.inr (.inr x0)), some (.inl x1), some (.inl x2), some (.inl x3), some (.inl x4), some (.inl x5), some (.inl x6), some (.inl x7), some (.inl x8), o9, none, none, none] [.inl x8, .inl x7, .inr (.inr x0), .inl (252 * ((2 * x1) + x2)), .inr (.inr r1)] H = _
    refine Eq.trans (e1 hG PT_165 k165_96 _ _ _) ?_
    refine bfc ?_ ?_
    · refine bdc fun u2 => ?_
      refine bdc fun i3 => ?_
      show G 165 99 [some (.inr (.inr x0)), some (.inl x1), some (.inl x2), some (.inl x3), some (.inl x4), some (.inl x5), some (.inl x6), some (.inl x7), some (.inl x8), o9, none, none, none] [.inl i3, .inl (252 * ((2 * x1) + x2)), .inr (.inr r1)] u2.2 = _
      refine Eq.trans (e1 hG PT_165 k165_99 _ _ _) ?_
      show G 165 100 [some (.inr (.inr x0)), some (.inl x1), some (.inl x2), some (.inl x3), some (.inl x4), some (.inl x5), some (.inl x6), some (.inl x7), some (.inl x8), o9, none, none, none] [.inl ((252 * ((2 * x1) + x2)) + i3), .inr (.inr r1)] u2.2 = _
      refine Eq.trans (e1 hG PT_165 k165_100 _ _ _) ?_
      refine bdc fun j4 => ?_
      show G 165 101 [some (.inr (.inr x0)), some (.inl x1), some (.inl x2), some (.inl x3), some (.inl x4), some (.inl x5), some (.inl x6), some (.inl x7), some (.inl x8), o9, none, none, none] [.inr (.inl j4)] u2.2 = _
      refine Eq.trans (e1 hG PT_165 k165_101 _ _ _) ?_
      show G 165 103 [some (.inr (.inr x0)), some (.inl x1), some (.inl x2), some (.inl x3), some (.inl x4), some (.inl x5), some (.inl x6), some (.inl x7), some (.inl x8), some (.inr (.inl j4)), none, none, none] [] u2.2 = _
      refine Eq.trans (e1 hG PT_165 k165_103 _ _ _) ?_
      show G 165 105 [some (.inr (.inr x0)), some (.inl x1), some (.inl x2), some (.inl x3), some (.inl x4), some (.inl x5), some (.inl x6), some (.inl x7), some (.inl x8), some (.inr (.inl j4)), none, none, none] [.inr (.inl j4)] u2.2 = _
      refine Eq.trans (e1 hG PT_165 k165_105 _ _ _) ?_
      show G 165 106 [some (.inr (.inr x0)), some (.inl x1), some (.inl x2), some (.inl x3), some (.inl x4), some (.inl x5), some (.inl x6), some (.inl x7), some (.inl x8), some (.inr (.inl j4)), none, none, none] [.inr (.inl 0), .inr (.inl j4)] u2.2 = _
      refine Eq.trans (e1 hG PT_165 k165_106 _ _ _) ?_
      show G 165 107 [some (.inr (.inr x0)), some (.inl x1), some (.inl x2), some (.inl x3), some (.inl x4), some (.inl x5), some (.inl x6), some (.inl x7), some (.inl x8), some (.inr (.inl j4)), none, none, none] [.inl (lg_cmp j4 0)] u2.2 = _
      refine Eq.trans (e1 hG PT_165 k165_107 _ _ _) ?_
      refine bfc ?_ ?_
      · rfl
      · show G 165 110 [some (.inr (.inr x0)), some (.inl x1), some (.inl x2), some (.inl x3), some (.inl x4), some (.inl x5), some (.inl x6), some (.inl x7), some (.inl x8), some (.inr (.inl j4)), none, none, none] [] u2.2 = _
        refine Eq.trans (e1 hG PT_165 k165_110 _ _ _) ?_
        show G 165 112 [some (.inr (.inr x0)), some (.inl x1), some (.inl x2), some (.inl x3), some (.inl x4), some (.inl x5), some (.inl x6), some (.inl x7), some (.inl x8), some (.inr (.inl j4)), none, none, none] [.inl x6] u2.2 = _
        refine Eq.trans (e1 hG PT_165 k165_112 _ _ _) ?_
        refine bfc ?_ ?_
        · show G 165 169 [some (.inr (.inr x0)), some (.inl x1), some (.inl x2), some (.inl x3), some (.inl x4), some (.inl x5), some (.inl x6), some (.inl x7), some (.inl x8), some (.inr (.inl j4)), none, none, none] [] u2.2 = _
          refine Eq.trans (e1 hG PT_165 k165_169 _ _ _) ?_
          rfl
        · show G 165 115 [some (.inr (.inr x0)), some (.inl x1), some (.inl x2), some (.inl x3), some (.inl x4), some (.inl x5), some (.inl x6), some (.inl x7), some (.inl x8), some (.inr (.inl j4)), none, none, none] [] u2.2 = _
          refine Eq.trans (e1 hG PT_165 k165_115 _ _ _) ?_
          show G 165 117 [some (.inr (.inr x0)), some (.inl x1), some (.inl x2), some (.inl x3), some (.inl x4), some (.inl x5), some (.inl x6), some (.inl x7), some (.inl x8), some (.inr (.inl j4)), none, none, none] [.inr (.inl j4)] u2.2 = _
          refine Eq.trans (e1 hG PT_165 k165_117 _ _ _) ?_
          show G 165 120 [some (.inr (.inr x0)), some (.inl x1), some (.inl x2), some (.inl x3), some (.inl x4), some (.inl x5), some (.inl x6), some (.inl x7), some (.inl x8), some (.inr (.inl j4)), none, none, none] [.inr (.inl 8640), .inr (.inl j4)] u2.2 = _
          refine Eq.trans (e1 hG PT_165 k165_120 _ _ _) ?_
          refine bdc fun u5 => ?_
          refine bdc fun j6 => ?_
          show G 165 123 [some (.inr (.inr x0)), some (.inl x1), some (.inl x2), some (.inl x3), some (.inl x4), some (.inl x5), some (.inl x6), some (.inl x7), some (.inl x8), some (.inr (.inl j4)), none, none, none] [.inr (.inl j6)] u5.2 = _
          refine Eq.trans (e1 hG PT_165 k165_123 _ _ _) ?_
          show G 165 125 [some (.inr (.inr x0)), some (.inl x1), some (.inl x2), some (.inl x3), some (.inl x4), some (.inl x5), some (.inl x6), some (.inl x7), some (.inl x8), some (.inr (.inl j4)), none, some (.inr (.inl j6)), none] [] u5.2 = _
          refine Eq.trans (e1 hG PT_165 k165_125 _ _ _) ?_
          show G 165 127 [some (.inr (.inr x0)), some (.inl x1), some (.inl x2), some (.inl x3), some (.inl x4), some (.inl x5), some (.inl x6), some (.inl x7), some (.inl x8), some (.inr (.inl j4)), none, some (.inr (.inl j6)), none] [.inl x4] u5.2 = _
          refine Eq.trans (e1 hG PT_165 k165_127 _ _ _) ?_
          refine bfc ?_ ?_
          · show G 165 138 [some (.inr (.inr x0)), some (.inl x1), some (.inl x2), some (.inl x3), some (.inl x4), some (.inl x5), some (.inl x6), some (.inl x7), some (.inl x8), some (.inr (.inl j4)), none, some (.inr (.inl j6)), none] [] u5.2 = _
            refine Eq.trans (e1 hG PT_165 k165_138 _ _ _) ?_
            show G 165 140 [some (.inr (.inr x0)), some (.inl x1), some (.inl x2), some (.inl x3), some (.inl x4), some (.inl x5), some (.inl x6), some (.inl x7), some (.inl x8), some (.inr (.inl j4)), none, some (.inr (.inl j6)), none] [.inl x4] u5.2 = _
            refine Eq.trans (e1 hG PT_165 k165_140 _ _ _) ?_
            show G 165 141 [some (.inr (.inr x0)), some (.inl x1), some (.inl x2), some (.inl x3), some (.inl x4), some (.inl x5), some (.inl x6), some (.inl x7), some (.inl x8), some (.inr (.inl j4)), none, some (.inr (.inl j6)), none] [.inl 1, .inl x4] u5.2 = _
            refine Eq.trans (e1 hG PT_165 k165_141 _ _ _) ?_
            refine bfc ?_ ?_
            · show G 165 153 [some (.inr (.inr x0)), some (.inl x1), some (.inl x2), some (.inl x3), some (.inl x4), some (.inl x5), some (.inl x6), some (.inl x7), some (.inl x8), some (.inr (.inl j4)), none, some (.inr (.inl j6)), none] [] u5.2 = _
              refine Eq.trans (e1 hG PT_165 k165_153 _ _ _) ?_
              show G 165 155 [some (.inr (.inr x0)), some (.inl x1), some (.inl x2), some (.inl x3), some (.inl x4), some (.inl x5), some (.inl x6), some (.inl x7), some (.inl x8), some (.inr (.inl j4)), none, some (.inr (.inl j6)), none] [.inl x4] u5.2 = _
              refine Eq.trans (e1 hG PT_165 k165_155 _ _ _) ?_
              show G 165 156 [some (.inr (.inr x0)), some (.inl x1), some (.inl x2), some (.inl x3), some (.inl x4), some (.inl x5), some (.inl x6), some (.inl x7), some (.inl x8), some (.inr (.inl j4)), none, some (.inr (.inl j6)), none] [.inl 2, .inl x4] u5.2 = _
              refine Eq.trans (e1 hG PT_165 k165_156 _ _ _) ?_
              refine bfc ?_ ?_
              · show G 165 165 [some (.inr (.inr x0)), some (.inl x1), some (.inl x2), some (.inl x3), some (.inl x4), some (.inl x5), some (.inl x6), some (.inl x7), some (.inl x8), some (.inr (.inl j4)), none, some (.inr (.inl j6)), none] [] u5.2 = _
                refine Eq.trans (e1 hG PT_165 k165_165 _ _ _) ?_
                show G 165 167 [some (.inr (.inr x0)), some (.inl x1), some (.inl x2), some (.inl x3), some (.inl x4), some (.inl x5), some (.inl x6), some (.inl x7), some (.inl x8), some (.inr (.inl j4)), none, some (.inr (.inl j6)), none] [.inl x8] u5.2 = _
                refine Eq.trans (e1 hG PT_165 k165_167 _ _ _) ?_
                rfl
              · show G 165 159 [some (.inr (.inr x0)), some (.inl x1), some (.inl x2), some (.inl x3), some (.inl x4), some (.inl x5), some (.inl x6), some (.inl x7), some (.inl x8), some (.inr (.inl j4)), none, some (.inr (.inl j6)), none] [] u5.2 = _
                refine Eq.trans (e1 hG PT_165 k165_159 _ _ _) ?_
                show G 165 161 [some (.inr (.inr x0)), some (.inl x1), some (.inl x2), some (.inl x3), some (.inl x4), some (.inl x5), some (.inl x6), some (.inl x7), some (.inl x8), some (.inr (.inl j4)), none, some (.inr (.inl j6)), none] [.inl x7] u5.2 = _
                refine Eq.trans (e1 hG PT_165 k165_161 _ _ _) ?_
                show G 165 162 [some (.inr (.inr x0)), some (.inl x1), some (.inl x2), some (.inl x3), some (.inl x4), some (.inl x5), some (.inl x6), some (.inl x7), some (.inl x8), some (.inr (.inl j4)), none, some (.inr (.inl j6)), none] [.inr (.inl x7.toInt64)] u5.2 = _
                refine Eq.trans (e1 hG PT_165 k165_162 _ _ _) ?_
                rfl
            · show G 165 144 [some (.inr (.inr x0)), some (.inl x1), some (.inl x2), some (.inl x3), some (.inl x4), some (.inl x5), some (.inl x6), some (.inl x7), some (.inl x8), some (.inr (.inl j4)), none, some (.inr (.inl j6)), none] [] u5.2 = _
              refine Eq.trans (e1 hG PT_165 k165_144 _ _ _) ?_
              show G 165 147 [some (.inr (.inr x0)), some (.inl x1), some (.inl x2), some (.inl x3), some (.inl x4), some (.inl x5), some (.inl x6), some (.inl x7), some (.inl x8), some (.inr (.inl j4)), none, some (.inr (.inl j6)), none] [.inr (.inl 8640)] u5.2 = _
              refine Eq.trans (e1 hG PT_165 k165_147 _ _ _) ?_
              show G 165 149 [some (.inr (.inr x0)), some (.inl x1), some (.inl x2), some (.inl x3), some (.inl x4), some (.inl x5), some (.inl x6), some (.inl x7), some (.inl x8), some (.inr (.inl j4)), none, some (.inr (.inl j6)), none] [.inr (.inl j6), .inr (.inl 8640)] u5.2 = _
              refine Eq.trans (e1 hG PT_165 k165_149 _ _ _) ?_
              show ((if (j6 : Int64) = 0 then none else some (8640 / j6))).bind (fun j7 => G 165 150 [some (.inr (.inr x0)), some (.inl x1), some (.inl x2), some (.inl x3), some (.inl x4), some (.inl x5), some (.inl x6), some (.inl x7), some (.inl x8), some (.inr (.inl j4)), none, some (.inr (.inl j6)), none] [.inr (.inl j7)] u5.2) = _
              refine bdc (q := (if (j6 : Int64) = 0 then none else some (8640 / j6))) fun j7 => ?_
              show G 165 150 [some (.inr (.inr x0)), some (.inl x1), some (.inl x2), some (.inl x3), some (.inl x4), some (.inl x5), some (.inl x6), some (.inl x7), some (.inl x8), some (.inr (.inl j4)), none, some (.inr (.inl j6)), none] [.inr (.inl j7)] u5.2 = _
              refine Eq.trans (e1 hG PT_165 k165_150 _ _ _) ?_
              rfl
          · show G 165 130 [some (.inr (.inr x0)), some (.inl x1), some (.inl x2), some (.inl x3), some (.inl x4), some (.inl x5), some (.inl x6), some (.inl x7), some (.inl x8), some (.inr (.inl j4)), none, some (.inr (.inl j6)), none] [] u5.2 = _
            refine Eq.trans (e1 hG PT_165 k165_130 _ _ _) ?_
            show G 165 132 [some (.inr (.inr x0)), some (.inl x1), some (.inl x2), some (.inl x3), some (.inl x4), some (.inl x5), some (.inl x6), some (.inl x7), some (.inl x8), some (.inr (.inl j4)), none, some (.inr (.inl j6)), none] [.inr (.inl j4)] u5.2 = _
            refine Eq.trans (e1 hG PT_165 k165_132 _ _ _) ?_
            show G 165 134 [some (.inr (.inr x0)), some (.inl x1), some (.inl x2), some (.inl x3), some (.inl x4), some (.inl x5), some (.inl x6), some (.inl x7), some (.inl x8), some (.inr (.inl j4)), none, some (.inr (.inl j6)), none] [.inr (.inl j6), .inr (.inl j4)] u5.2 = _
            refine Eq.trans (e1 hG PT_165 k165_134 _ _ _) ?_
            show ((if (j6 : Int64) = 0 then none else some (j4 / j6))).bind (fun j8 => G 165 135 [some (.inr (.inr x0)), some (.inl x1), some (.inl x2), some (.inl x3), some (.inl x4), some (.inl x5), some (.inl x6), some (.inl x7), some (.inl x8), some (.inr (.inl j4)), none, some (.inr (.inl j6)), none] [.inr (.inl j8)] u5.2) = _
            refine bdc (q := (if (j6 : Int64) = 0 then none else some (j4 / j6))) fun j8 => ?_
            show G 165 135 [some (.inr (.inr x0)), some (.inl x1), some (.inl x2), some (.inl x3), some (.inl x4), some (.inl x5), some (.inl x6), some (.inl x7), some (.inl x8), some (.inr (.inl j4)), none, some (.inr (.inl j6)), none] [.inr (.inl j8)] u5.2 = _
            refine Eq.trans (e1 hG PT_165 k165_135 _ _ _) ?_
            rfl
    · rfl
set_option maxRecDepth 100000 in
theorem b165_168 {G : AG} (hG : FIX G) (x0 : Nat) (x1 : Int32) (x2 : Int32) (x3 : Int32) (x4 : Int32) (x5 : Int32) (x6 : Int32) (x7 : Int32) (x8 : Int32) (x9 : Int64) (x11 : Int64) (s0 : Int64) (H : Hp) : G 165 168 [some (.inr (.inr x0)), some (.inl x1), some (.inl x2), some (.inl x3), some (.inl x4), some (.inl x5), some (.inl x6), some (.inl x7), some (.inl x8), some (.inr (.inl x9)), none, some (.inr (.inl x11)), none] [.inr (.inl s0)] H = (some (some (.inr (.inl s0)), H)) := by
  exact e1 hG PT_165 k165_168 _ _ _
set_option maxRecDepth 100000 in
theorem b165_172 {G : AG} (hG : FIX G) (x0 : Nat) (x1 : Int32) (x2 : Int32) (x3 : Int32) (x4 : Int32) (x5 : Int32) (x6 : Int32) (x7 : Int32) (x8 : Int32) (x9 : Int64) (H : Hp) : G 165 172 [some (.inr (.inr x0)), some (.inl x1), some (.inl x2), some (.inl x3), some (.inl x4), some (.inl x5), some (.inl x6), some (.inl x7), some (.inl x8), some (.inr (.inl x9)), none, none, none] [] H = (G 165 73 [some (.inr (.inr x0)), some (.inl x1), some (.inl x2), some (.inl x3), some (.inl x4), some (.inl x5), some (.inl x6), some (.inl x7), some (.inl (x8 + (-1))), some (.inr (.inl x9)), none, none, none] [] H) := by
  refine Eq.trans (e1 hG PT_165 k165_172 _ _ _) ?_
  show G 165 175 [some (.inr (.inr x0)), some (.inl x1), some (.inl x2), some (.inl x3), some (.inl x4), some (.inl x5), some (.inl x6), some (.inl x7), some (.inl (x8 + (-1))), some (.inr (.inl x9)), none, none, none] [] H = _
  refine Eq.trans (e1 hG PT_165 k165_175 _ _ _) ?_
  rfl
-- StepsAheadModel.rowBy(II)I
theorem PT_166 : PT 166 = pt166 := rfl
theorem k166_0 : lkp pt166 0 = iP 1 (fAld 0) := rfl
theorem k166_1 : lkp pt166 1 = iRR 4 (gtR 62) := rfl
theorem k166_4 : lkp pt166 4 = iP 5 (fIld 1) := rfl
theorem k166_5 : lkp pt166 5 = iP 7 (fK (.inl 6)) := rfl
theorem k166_7 : lkp pt166 7 = iP 8 (fIld 2) := rfl
theorem k166_8 : lkp pt166 8 = iP 9 (f2I (fun x y => x * y)) := rfl
theorem k166_9 : lkp pt166 9 = iP 10 (f2I (fun x y => x + y)) := rfl
theorem k166_10 : lkp pt166 10 = iRI 11 qAI := rfl
theorem k166_11 : lkp pt166 11 = iRet rI := rfl
theorem b166_0 {G : AG} (hG : FIX G) (x0 : Nat) (x1 : Int32) (x2 : Int32) (H : Hp) : G 166 0 [some (.inr (.inr x0)), some (.inl x1), some (.inl x2)] [] H = ((hgR H x0 62).bind fun r1 => (hAI H r1 ((x1 + (6 * x2)))).bind fun i2 => some (some (.inl i2), H)) := by
  refine Eq.trans (e1 hG PT_166 k166_0 _ _ _) ?_
  show G 166 1 [some (.inr (.inr x0)), some (.inl x1), some (.inl x2)] [.inr (.inr x0)] H = _
  refine Eq.trans (e1 hG PT_166 k166_1 _ _ _) ?_
  refine bdc fun r1 => ?_
  show G 166 4 [some (.inr (.inr x0)), some (.inl x1), some (.inl x2)] [.inr (.inr r1)] H = _
  refine Eq.trans (e1 hG PT_166 k166_4 _ _ _) ?_
  show G 166 5 [some (.inr (.inr x0)), some (.inl x1), some (.inl x2)] [.inl x1, .inr (.inr r1)] H = _
  refine Eq.trans (e1 hG PT_166 k166_5 _ _ _) ?_
  show G 166 7 [some (.inr (.inr x0)), some (.inl x1), some (.inl x2)] [.inl 6, .inl x1, .inr (.inr r1)] H = _
  refine Eq.trans (e1 hG PT_166 k166_7 _ _ _) ?_
  show G 166 8 [some (.inr (.inr x0)), some (.inl x1), some (.inl x2)] [.inl x2, .inl 6, .inl x1, .inr (.inr r1)] H = _
  refine Eq.trans (e1 hG PT_166 k166_8 _ _ _) ?_
  show G 166 9 [some (.inr (.inr x0)), some (.inl x1), some (.inl x2)] [.inl (6 * x2), .inl x1, .inr (.inr r1)] H = _
  refine Eq.trans (e1 hG PT_166 k166_9 _ _ _) ?_
  show G 166 10 [some (.inr (.inr x0)), some (.inl x1), some (.inl x2)] [.inl (x1 + (6 * x2)), .inr (.inr r1)] H = _
  refine Eq.trans (e1 hG PT_166 k166_10 _ _ _) ?_
  refine bdc fun i2 => ?_
  show G 166 11 [some (.inr (.inr x0)), some (.inl x1), some (.inl x2)] [.inl i2] H = _
  exact e1 hG PT_166 k166_11 _ _ _
-- StepsAheadModel.divisor(JJ)J
theorem PT_167 : PT 167 = pt167 := rfl
theorem k167_0 : lkp pt167 0 = iP 1 (fJld 0) := rfl
theorem k167_1 : lkp pt167 1 = iP 2 (fK (.inr (.inl 0))) := rfl
theorem k167_2 : lkp pt167 2 = iP 3 fLcmp := rfl
theorem k167_3 : lkp pt167 3 = iB 6 11 (b1 (fun x => decide (0 ≤ x))) := rfl
theorem k167_6 : lkp pt167 6 = iP 7 (fJld 0) := rfl
theorem k167_7 : lkp pt167 7 = iP 8 fLneg := rfl
theorem k167_8 : lkp pt167 8 = iP 12 fGo := rfl
theorem k167_11 : lkp pt167 11 = iP 12 (fJld 0) := rfl
theorem k167_12 : lkp pt167 12 = iP 14 (fLst 4) := rfl
theorem k167_14 : lkp pt167 14 = iP 15 (fJld 2) := rfl
theorem k167_15 : lkp pt167 15 = iP 17 (fLst 6) := rfl
theorem k167_17 : lkp pt167 17 = iP 19 (fJld 6) := rfl
theorem k167_19 : lkp pt167 19 = iP 20 (fK (.inr (.inl 0))) := rfl
theorem k167_20 : lkp pt167 20 = iP 21 fLcmp := rfl
theorem k167_21 : lkp pt167 21 = iB 24 42 (b1 (fun x => decide (x = 0))) := rfl
theorem k167_24 : lkp pt167 24 = iP 26 (fJld 4) := rfl
theorem k167_26 : lkp pt167 26 = iP 28 (fJld 6) := rfl
theorem k167_28 : lkp pt167 28 = iRJ 29 (q2J (fun x y => x - x / y * y)) := rfl
theorem k167_29 : lkp pt167 29 = iP 31 (fLst 8) := rfl
theorem k167_31 : lkp pt167 31 = iP 33 (fJld 6) := rfl
theorem k167_33 : lkp pt167 33 = iP 35 (fLst 4) := rfl
theorem k167_35 : lkp pt167 35 = iP 37 (fJld 8) := rfl
theorem k167_37 : lkp pt167 37 = iP 39 (fLst 6) := rfl
theorem k167_39 : lkp pt167 39 = iP 17 fGo := rfl
theorem k167_42 : lkp pt167 42 = iP 44 (fJld 4) := rfl
theorem k167_44 : lkp pt167 44 = iRet rJ := rfl
theorem b167_0 {G : AG} (hG : FIX G) (x0 : Int64) (x2 : Int64) (H : Hp) : G 167 0 [some (.inr (.inl x0)), none, some (.inr (.inl x2)), none, none, none, none, none, none, none] [] H = (bif decide (0 ≤ ((lg_cmp x0 0) : Int32)) then G 167 12 [some (.inr (.inl x0)), none, some (.inr (.inl x2)), none, none, none, none, none, none, none] [.inr (.inl x0)] H else G 167 12 [some (.inr (.inl x0)), none, some (.inr (.inl x2)), none, none, none, none, none, none, none] [.inr (.inl (-x0))] H) := by
  refine Eq.trans (e1 hG PT_167 k167_0 _ _ _) ?_
  show G 167 1 [some (.inr (.inl x0)), none, some (.inr (.inl x2)), none, none, none, none, none, none, none] [.inr (.inl x0)] H = _
  refine Eq.trans (e1 hG PT_167 k167_1 _ _ _) ?_
  show G 167 2 [some (.inr (.inl x0)), none, some (.inr (.inl x2)), none, none, none, none, none, none, none] [.inr (.inl 0), .inr (.inl x0)] H = _
  refine Eq.trans (e1 hG PT_167 k167_2 _ _ _) ?_
  show G 167 3 [some (.inr (.inl x0)), none, some (.inr (.inl x2)), none, none, none, none, none, none, none] [.inl (lg_cmp x0 0)] H = _
  refine Eq.trans (e1 hG PT_167 k167_3 _ _ _) ?_
  refine bfc ?_ ?_
  · show G 167 11 [some (.inr (.inl x0)), none, some (.inr (.inl x2)), none, none, none, none, none, none, none] [] H = _
    refine Eq.trans (e1 hG PT_167 k167_11 _ _ _) ?_
    rfl
  · show G 167 6 [some (.inr (.inl x0)), none, some (.inr (.inl x2)), none, none, none, none, none, none, none] [] H = _
    refine Eq.trans (e1 hG PT_167 k167_6 _ _ _) ?_
    show G 167 7 [some (.inr (.inl x0)), none, some (.inr (.inl x2)), none, none, none, none, none, none, none] [.inr (.inl x0)] H = _
    refine Eq.trans (e1 hG PT_167 k167_7 _ _ _) ?_
    show G 167 8 [some (.inr (.inl x0)), none, some (.inr (.inl x2)), none, none, none, none, none, none, none] [.inr (.inl (-x0))] H = _
    refine Eq.trans (e1 hG PT_167 k167_8 _ _ _) ?_
    rfl
theorem b167_12 {G : AG} (hG : FIX G) (x0 : Int64) (x2 : Int64) (s0 : Int64) (H : Hp) : G 167 12 [some (.inr (.inl x0)), none, some (.inr (.inl x2)), none, none, none, none, none, none, none] [.inr (.inl s0)] H = (G 167 17 [some (.inr (.inl x0)), none, some (.inr (.inl x2)), none, some (.inr (.inl s0)), none, some (.inr (.inl x2)), none, none, none] [] H) := by
  refine Eq.trans (e1 hG PT_167 k167_12 _ _ _) ?_
  show G 167 14 [some (.inr (.inl x0)), none, some (.inr (.inl x2)), none, some (.inr (.inl s0)), none, none, none, none, none] [] H = _
  refine Eq.trans (e1 hG PT_167 k167_14 _ _ _) ?_
  show G 167 15 [some (.inr (.inl x0)), none, some (.inr (.inl x2)), none, some (.inr (.inl s0)), none, none, none, none, none] [.inr (.inl x2)] H = _
  refine Eq.trans (e1 hG PT_167 k167_15 _ _ _) ?_
  rfl
theorem b167_17 {G : AG} (hG : FIX G) (x0 : Int64) (x2 : Int64) (x4 : Int64) (x6 : Int64) (o8 : Option AV) (H : Hp) : G 167 17 [some (.inr (.inl x0)), none, some (.inr (.inl x2)), none, some (.inr (.inl x4)), none, some (.inr (.inl x6)), none, o8, none] [] H = (bif decide (((lg_cmp x6 0) : Int32) = 0) then some (some (.inr (.inl x4)), H) else ((if (x6 : Int64) = 0 then none else some (x4 - x4 / x6 * x6))).bind fun j1 => G 167 17 [some (.inr (.inl x0)), none, some (.inr (.inl x2)), none, some (.inr (.inl x6)), none, some (.inr (.inl j1)), none, some (.inr (.inl j1)), none] [] H) := by
  refine Eq.trans (e1 hG PT_167 k167_17 _ _ _) ?_
  show G 167 19 [some (.inr (.inl x0)), none, some (.inr (.inl x2)), none, some (.inr (.inl x4)), none, some (.inr (.inl x6)), none, o8, none] [.inr (.inl x6)] H = _
  refine Eq.trans (e1 hG PT_167 k167_19 _ _ _) ?_
  show G 167 20 [some (.inr (.inl x0)), none, some (.inr (.inl x2)), none, some (.inr (.inl x4)), none, some (.inr (.inl x6)), none, o8, none] [.inr (.inl 0), .inr (.inl x6)] H = _
  refine Eq.trans (e1 hG PT_167 k167_20 _ _ _) ?_
  show G 167 21 [some (.inr (.inl x0)), none, some (.inr (.inl x2)), none, some (.inr (.inl x4)), none, some (.inr (.inl x6)), none, o8, none] [.inl (lg_cmp x6 0)] H = _
  refine Eq.trans (e1 hG PT_167 k167_21 _ _ _) ?_
  refine bfc ?_ ?_
  · show G 167 42 [some (.inr (.inl x0)), none, some (.inr (.inl x2)), none, some (.inr (.inl x4)), none, some (.inr (.inl x6)), none, o8, none] [] H = _
    refine Eq.trans (e1 hG PT_167 k167_42 _ _ _) ?_
    show G 167 44 [some (.inr (.inl x0)), none, some (.inr (.inl x2)), none, some (.inr (.inl x4)), none, some (.inr (.inl x6)), none, o8, none] [.inr (.inl x4)] H = _
    exact e1 hG PT_167 k167_44 _ _ _
  · show G 167 24 [some (.inr (.inl x0)), none, some (.inr (.inl x2)), none, some (.inr (.inl x4)), none, some (.inr (.inl x6)), none, o8, none] [] H = _
    refine Eq.trans (e1 hG PT_167 k167_24 _ _ _) ?_
    show G 167 26 [some (.inr (.inl x0)), none, some (.inr (.inl x2)), none, some (.inr (.inl x4)), none, some (.inr (.inl x6)), none, o8, none] [.inr (.inl x4)] H = _
    refine Eq.trans (e1 hG PT_167 k167_26 _ _ _) ?_
    show G 167 28 [some (.inr (.inl x0)), none, some (.inr (.inl x2)), none, some (.inr (.inl x4)), none, some (.inr (.inl x6)), none, o8, none] [.inr (.inl x6), .inr (.inl x4)] H = _
    refine Eq.trans (e1 hG PT_167 k167_28 _ _ _) ?_
    show ((if (x6 : Int64) = 0 then none else some (x4 - x4 / x6 * x6))).bind (fun j1 => G 167 29 [some (.inr (.inl x0)), none, some (.inr (.inl x2)), none, some (.inr (.inl x4)), none, some (.inr (.inl x6)), none, o8, none] [.inr (.inl j1)] H) = _
    refine bdc (q := (if (x6 : Int64) = 0 then none else some (x4 - x4 / x6 * x6))) fun j1 => ?_
    show G 167 29 [some (.inr (.inl x0)), none, some (.inr (.inl x2)), none, some (.inr (.inl x4)), none, some (.inr (.inl x6)), none, o8, none] [.inr (.inl j1)] H = _
    refine Eq.trans (e1 hG PT_167 k167_29 _ _ _) ?_
    show G 167 31 [some (.inr (.inl x0)), none, some (.inr (.inl x2)), none, some (.inr (.inl x4)), none, some (.inr (.inl x6)), none, some (.inr (.inl j1)), none] [] H = _
    refine Eq.trans (e1 hG PT_167 k167_31 _ _ _) ?_
    show G 167 33 [some (.inr (.inl x0)), none, some (.inr (.inl x2)), none, some (.inr (.inl x4)), none, some (.inr (.inl x6)), none, some (.inr (.inl j1)), none] [.inr (.inl x6)] H = _
    refine Eq.trans (e1 hG PT_167 k167_33 _ _ _) ?_
    show G 167 35 [some (.inr (.inl x0)), none, some (.inr (.inl x2)), none, some (.inr (.inl x6)), none, some (.inr (.inl x6)), none, some (.inr (.inl j1)), none] [] H = _
    refine Eq.trans (e1 hG PT_167 k167_35 _ _ _) ?_
    show G 167 37 [some (.inr (.inl x0)), none, some (.inr (.inl x2)), none, some (.inr (.inl x6)), none, some (.inr (.inl x6)), none, some (.inr (.inl j1)), none] [.inr (.inl j1)] H = _
    refine Eq.trans (e1 hG PT_167 k167_37 _ _ _) ?_
    show G 167 39 [some (.inr (.inl x0)), none, some (.inr (.inl x2)), none, some (.inr (.inl x6)), none, some (.inr (.inl j1)), none, some (.inr (.inl j1)), none] [] H = _
    refine Eq.trans (e1 hG PT_167 k167_39 _ _ _) ?_
    rfl
-- StepsAheadModel.value(IIII)J
theorem PT_168 : PT 168 = pt168 := rfl
theorem k168_0 : lkp pt168 0 = iP 1 (fAld 0) := rfl
theorem k168_1 : lkp pt168 1 = iP 2 (fIld 1) := rfl
theorem k168_2 : lkp pt168 2 = iCK 5 12 132 2 2 1 := rfl
theorem k168_5 : lkp pt168 5 = iB 8 27 (b1 (fun x => decide (x = 0))) := rfl
theorem k168_8 : lkp pt168 8 = iP 9 (fIld 2) := rfl
theorem k168_9 : lkp pt168 9 = iP 10 fI2l := rfl
theorem k168_10 : lkp pt168 10 = iP 11 (fK (.inr (.inl 0))) := rfl
theorem k168_11 : lkp pt168 11 = iP 12 (fK (.inr (.inl 1))) := rfl
theorem k168_12 : lkp pt168 12 = iC 15 130 6 3 1 := rfl
theorem k168_15 : lkp pt168 15 = iB 18 27 (b1 (fun x => decide (x = 0))) := rfl
theorem k168_18 : lkp pt168 18 = iP 19 (fIld 3) := rfl
theorem k168_19 : lkp pt168 19 = iP 21 (fIld 4) := rfl
theorem k168_21 : lkp pt168 21 = iC 24 169 2 2 1 := rfl
theorem k168_24 : lkp pt168 24 = iB 27 31 (b1 (fun x => decide (x ≠ 0))) := rfl
theorem k168_27 : lkp pt168 27 = iP 30 (fK (.inr (.inl (-1000001)))) := rfl
theorem k168_30 : lkp pt168 30 = iRet rJ := rfl
theorem k168_31 : lkp pt168 31 = iP 32 (fAld 0) := rfl
theorem k168_32 : lkp pt168 32 = iP 33 (fIld 1) := rfl
theorem k168_33 : lkp pt168 33 = iP 34 (fIld 2) := rfl
theorem k168_34 : lkp pt168 34 = iCK 37 12 152 3 3 1 := rfl
theorem k168_37 : lkp pt168 37 = iP 39 (fIst 5) := rfl
theorem k168_39 : lkp pt168 39 = iP 41 (fIld 5) := rfl
theorem k168_41 : lkp pt168 41 = iB 44 50 (b1 (fun x => decide (x = 0))) := rfl
theorem k168_44 : lkp pt168 44 = iP 46 (fIld 5) := rfl
theorem k168_46 : lkp pt168 46 = iP 47 fI2l := rfl
theorem k168_47 : lkp pt168 47 = iP 59 fGo := rfl
theorem k168_50 : lkp pt168 50 = iP 51 (fAld 0) := rfl
theorem k168_51 : lkp pt168 51 = iP 52 (fIld 1) := rfl
theorem k168_52 : lkp pt168 52 = iP 53 (fIld 2) := rfl
theorem k168_53 : lkp pt168 53 = iP 54 (fIld 3) := rfl
theorem k168_54 : lkp pt168 54 = iP 56 (fIld 4) := rfl
theorem k168_56 : lkp pt168 56 = iCK 59 12 170 13 5 2 := rfl
theorem k168_59 : lkp pt168 59 = iRet rJ := rfl
theorem b168_0 {G : AG} (hG : FIX G) (x0 : Nat) (x1 : Int32) (x2 : Int32) (x3 : Int32) (x4 : Int32) (H : Hp) : G 168 0 [some (.inr (.inr x0)), some (.inl x1), some (.inl x2), some (.inl x3), some (.inl x4), none] [] H = (bif Nat.beq (H.1 x0).1 12 then (G 132 0 [some (.inr (.inr x0)), some (.inl x1)] [] H).bind fun u1 => (asI u1.1).bind fun i2 => bif decide ((i2 : Int32) = 0) then G 168 27 [some (.inr (.inr x0)), some (.inl x1), some (.inl x2), some (.inl x3), some (.inl x4), none] [] u1.2 else (G 130 0 [some (.inr (.inl x2.toInt64)), none, some (.inr (.inl 0)), none, some (.inr (.inl 1)), none] [] u1.2).bind fun u3 => (asI u3.1).bind fun i4 => bif decide ((i4 : Int32) = 0) then G 168 27 [some (.inr (.inr x0)), some (.inl x1), some (.inl x2), some (.inl x3), some (.inl x4), none] [] u3.2 else (G 169 0 [some (.inl x3), some (.inl x4)] [] u3.2).bind fun u5 => (asI u5.1).bind fun i6 => bif decide ((i6 : Int32) ≠ 0) then bif Nat.beq (u5.2.1 x0).1 12 then (G 152 0 [some (.inr (.inr x0)), some (.inl x1), some (.inl x2)] [] u5.2).bind fun u7 => (asI u7.1).bind fun i8 => bif decide ((i8 : Int32) = 0) then bif Nat.beq (u7.2.1 x0).1 12 then (G 170 0 [some (.inr (.inr x0)), some (.inl x1), some (.inl x2), some (.inl x3), some (.inl x4), none, none, none, none, none, none, none, none] [] u7.2).bind fun u9 => (asJ u9.1).bind fun j10 => G 168 59 [some (.inr (.inr x0)), some (.inl x1), some (.inl x2), some (.inl x3), some (.inl x4), some (.inl i8)] [.inr (.inl j10)] u9.2 else none else G 168 59 [some (.inr (.inr x0)), some (.inl x1), some (.inl x2), some (.inl x3), some (.inl x4), some (.inl i8)] [.inr (.inl i8.toInt64)] u7.2 else none else G 168 27 [some (.inr (.inr x0)), some (.inl x1), some (.inl x2), some (.inl x3), some (.inl x4), none] [] u5.2 else none) := by
  refine Eq.trans (e1 hG PT_168 k168_0 _ _ _) ?_
  show G 168 1 [some (.inr (.inr x0)), some (.inl x1), some (.inl x2), some (.inl x3), some (.inl x4), none] [.inr (.inr x0)] H = _
  refine Eq.trans (e1 hG PT_168 k168_1 _ _ _) ?_
  show G 168 2 [some (.inr (.inr x0)), some (.inl x1), some (.inl x2), some (.inl x3), some (.inl x4), none] [.inl x1, .inr (.inr x0)] H = _
  refine Eq.trans (e1 hG PT_168 k168_2 _ _ _) ?_
  refine bfc ?_ ?_
  · refine bdc fun u1 => ?_
    refine bdc fun i2 => ?_
    show G 168 5 [some (.inr (.inr x0)), some (.inl x1), some (.inl x2), some (.inl x3), some (.inl x4), none] [.inl i2] u1.2 = _
    refine Eq.trans (e1 hG PT_168 k168_5 _ _ _) ?_
    refine bfc ?_ ?_
    · rfl
    · show G 168 8 [some (.inr (.inr x0)), some (.inl x1), some (.inl x2), some (.inl x3), some (.inl x4), none] [] u1.2 = _
      refine Eq.trans (e1 hG PT_168 k168_8 _ _ _) ?_
      show G 168 9 [some (.inr (.inr x0)), some (.inl x1), some (.inl x2), some (.inl x3), some (.inl x4), none] [.inl x2] u1.2 = _
      refine Eq.trans (e1 hG PT_168 k168_9 _ _ _) ?_
      show G 168 10 [some (.inr (.inr x0)), some (.inl x1), some (.inl x2), some (.inl x3), some (.inl x4), none] [.inr (.inl x2.toInt64)] u1.2 = _
      refine Eq.trans (e1 hG PT_168 k168_10 _ _ _) ?_
      show G 168 11 [some (.inr (.inr x0)), some (.inl x1), some (.inl x2), some (.inl x3), some (.inl x4), none] [.inr (.inl 0), .inr (.inl x2.toInt64)] u1.2 = _
      refine Eq.trans (e1 hG PT_168 k168_11 _ _ _) ?_
      show G 168 12 [some (.inr (.inr x0)), some (.inl x1), some (.inl x2), some (.inl x3), some (.inl x4), none] [.inr (.inl 1), .inr (.inl 0), .inr (.inl x2.toInt64)] u1.2 = _
      refine Eq.trans (e1 hG PT_168 k168_12 _ _ _) ?_
      refine bdc fun u3 => ?_
      refine bdc fun i4 => ?_
      show G 168 15 [some (.inr (.inr x0)), some (.inl x1), some (.inl x2), some (.inl x3), some (.inl x4), none] [.inl i4] u3.2 = _
      refine Eq.trans (e1 hG PT_168 k168_15 _ _ _) ?_
      refine bfc ?_ ?_
      · rfl
      · show G 168 18 [some (.inr (.inr x0)), some (.inl x1), some (.inl x2), some (.inl x3), some (.inl x4), none] [] u3.2 = _
        refine Eq.trans (e1 hG PT_168 k168_18 _ _ _) ?_
        show G 168 19 [some (.inr (.inr x0)), some (.inl x1), some (.inl x2), some (.inl x3), some (.inl x4), none] [.inl x3] u3.2 = _
        refine Eq.trans (e1 hG PT_168 k168_19 _ _ _) ?_
        show G 168 21 [some (.inr (.inr x0)), some (.inl x1), some (.inl x2), some (.inl x3), some (.inl x4), none] [.inl x4, .inl x3] u3.2 = _
        refine Eq.trans (e1 hG PT_168 k168_21 _ _ _) ?_
        refine bdc fun u5 => ?_
        refine bdc fun i6 => ?_
        show G 168 24 [some (.inr (.inr x0)), some (.inl x1), some (.inl x2), some (.inl x3), some (.inl x4), none] [.inl i6] u5.2 = _
        refine Eq.trans (e1 hG PT_168 k168_24 _ _ _) ?_
        refine bfc ?_ ?_
        · show G 168 31 [some (.inr (.inr x0)), some (.inl x1), some (.inl x2), some (.inl x3), some (.inl x4), none] [] u5.2 = _
          refine Eq.trans (e1 hG PT_168 k168_31 _ _ _) ?_
          show G 168 32 [some (.inr (.inr x0)), some (.inl x1), some (.inl x2), some (.inl x3), some (.inl x4), none] [.inr (.inr x0)] u5.2 = _
          refine Eq.trans (e1 hG PT_168 k168_32 _ _ _) ?_
          show G 168 33 [some (.inr (.inr x0)), some (.inl x1), some (.inl x2), some (.inl x3), some (.inl x4), none] [.inl x1, .inr (.inr x0)] u5.2 = _
          refine Eq.trans (e1 hG PT_168 k168_33 _ _ _) ?_
          show G 168 34 [some (.inr (.inr x0)), some (.inl x1), some (.inl x2), some (.inl x3), some (.inl x4), none] [.inl x2, .inl x1, .inr (.inr x0)] u5.2 = _
          refine Eq.trans (e1 hG PT_168 k168_34 _ _ _) ?_
          refine bfc ?_ ?_
          · refine bdc fun u7 => ?_
            refine bdc fun i8 => ?_
            show G 168 37 [some (.inr (.inr x0)), some (.inl x1), some (.inl x2), some (.inl x3), some (.inl x4), none] [.inl i8] u7.2 = _
            refine Eq.trans (e1 hG PT_168 k168_37 _ _ _) ?_
            show G 168 39 [some (.inr (.inr x0)), some (.inl x1), some (.inl x2), some (.inl x3), some (.inl x4), some (.inl i8)] [] u7.2 = _
            refine Eq.trans (e1 hG PT_168 k168_39 _ _ _) ?_
            show G 168 41 [some (.inr (.inr x0)), some (.inl x1), some (.inl x2), some (.inl x3), some (.inl x4), some (.inl i8)] [.inl i8] u7.2 = _
            refine Eq.trans (e1 hG PT_168 k168_41 _ _ _) ?_
            refine bfc ?_ ?_
            · show G 168 50 [some (.inr (.inr x0)), some (.inl x1), some (.inl x2), some (.inl x3), some (.inl x4), some (.inl i8)] [] u7.2 = _
              refine Eq.trans (e1 hG PT_168 k168_50 _ _ _) ?_
              show G 168 51 [some (.inr (.inr x0)), some (.inl x1), some (.inl x2), some (.inl x3), some (.inl x4), some (.inl i8)] [.inr (.inr x0)] u7.2 = _
              refine Eq.trans (e1 hG PT_168 k168_51 _ _ _) ?_
              show G 168 52 [some (.inr (.inr x0)), some (.inl x1), some (.inl x2), some (.inl x3), some (.inl x4), some (.inl i8)] [.inl x1, .inr (.inr x0)] u7.2 = _
              refine Eq.trans (e1 hG PT_168 k168_52 _ _ _) ?_
              show G 168 53 [some (.inr (.inr x0)), some (.inl x1), some (.inl x2), some (.inl x3), some (.inl x4), some (.inl i8)] [.inl x2, .inl x1, .inr (.inr x0)] u7.2 = _
              refine Eq.trans (e1 hG PT_168 k168_53 _ _ _) ?_
              show G 168 54 [some (.inr (.inr x0)), some (.inl x1), some (.inl x2), some (.inl x3), some (.inl x4), some (.inl i8)] [.inl x3, .inl x2, .inl x1, .inr (.inr x0)] u7.2 = _
              refine Eq.trans (e1 hG PT_168 k168_54 _ _ _) ?_
              show G 168 56 [some (.inr (.inr x0)), some (.inl x1), some (.inl x2), some (.inl x3), some (.inl x4), some (.inl i8)] [.inl x4, .inl x3, .inl x2, .inl x1, .inr (.inr x0)] u7.2 = _
              refine Eq.trans (e1 hG PT_168 k168_56 _ _ _) ?_
              refine bfc ?_ ?_
              · refine bdc fun u9 => ?_
                refine bdc fun j10 => ?_
                rfl
              · rfl
            · show G 168 44 [some (.inr (.inr x0)), some (.inl x1), some (.inl x2), some (.inl x3), some (.inl x4), some (.inl i8)] [] u7.2 = _
              refine Eq.trans (e1 hG PT_168 k168_44 _ _ _) ?_
              show G 168 46 [some (.inr (.inr x0)), some (.inl x1), some (.inl x2), some (.inl x3), some (.inl x4), some (.inl i8)] [.inl i8] u7.2 = _
              refine Eq.trans (e1 hG PT_168 k168_46 _ _ _) ?_
              show G 168 47 [some (.inr (.inr x0)), some (.inl x1), some (.inl x2), some (.inl x3), some (.inl x4), some (.inl i8)] [.inr (.inl i8.toInt64)] u7.2 = _
              refine Eq.trans (e1 hG PT_168 k168_47 _ _ _) ?_
              rfl
          · rfl
        · rfl
  · rfl
theorem b168_27 {G : AG} (hG : FIX G) (x0 : Nat) (x1 : Int32) (x2 : Int32) (x3 : Int32) (x4 : Int32) (H : Hp) : G 168 27 [some (.inr (.inr x0)), some (.inl x1), some (.inl x2), some (.inl x3), some (.inl x4), none] [] H = (some (some (.inr (.inl ((-1000001)))), H)) := by
  refine Eq.trans (e1 hG PT_168 k168_27 _ _ _) ?_
  show G 168 30 [some (.inr (.inr x0)), some (.inl x1), some (.inl x2), some (.inl x3), some (.inl x4), none] [.inr (.inl (-1000001))] H = _
  exact e1 hG PT_168 k168_30 _ _ _
theorem b168_59 {G : AG} (hG : FIX G) (x0 : Nat) (x1 : Int32) (x2 : Int32) (x3 : Int32) (x4 : Int32) (x5 : Int32) (s0 : Int64) (H : Hp) : G 168 59 [some (.inr (.inr x0)), some (.inl x1), some (.inl x2), some (.inl x3), some (.inl x4), some (.inl x5)] [.inr (.inl s0)] H = (some (some (.inr (.inl s0)), H)) := by
  exact e1 hG PT_168 k168_59 _ _ _
-- StepsAheadModel.areInputs(II)Z
theorem PT_169 : PT 169 = pt169 := rfl
theorem k169_0 : lkp pt169 0 = iP 1 (fIld 0) := rfl
theorem k169_1 : lkp pt169 1 = iP 2 fI2l := rfl
theorem k169_2 : lkp pt169 2 = iP 3 (fK (.inr (.inl 0))) := rfl
theorem k169_3 : lkp pt169 3 = iP 6 (fK (.inr (.inl 20))) := rfl
theorem k169_6 : lkp pt169 6 = iC 9 130 6 3 1 := rfl
theorem k169_9 : lkp pt169 9 = iB 12 28 (b1 (fun x => decide (x = 0))) := rfl
theorem k169_12 : lkp pt169 12 = iP 13 (fIld 1) := rfl
theorem k169_13 : lkp pt169 13 = iP 14 fI2l := rfl
theorem k169_14 : lkp pt169 14 = iP 15 (fK (.inr (.inl 0))) := rfl
theorem k169_15 : lkp pt169 15 = iP 18 (fK (.inr (.inl 20))) := rfl
theorem k169_18 : lkp pt169 18 = iC 21 130 6 3 1 := rfl
theorem k169_21 : lkp pt169 21 = iB 24 28 (b1 (fun x => decide (x = 0))) := rfl
theorem k169_24 : lkp pt169 24 = iP 25 (fK (.inl 1)) := rfl
theorem k169_25 : lkp pt169 25 = iP 29 fGo := rfl
theorem k169_28 : lkp pt169 28 = iP 29 (fK (.inl 0)) := rfl
theorem k169_29 : lkp pt169 29 = iRet rZ := rfl
theorem b169_0 {G : AG} (hG : FIX G) (x0 : Int32) (x1 : Int32) (H : Hp) : G 169 0 [some (.inl x0), some (.inl x1)] [] H = ((G 130 0 [some (.inr (.inl x0.toInt64)), none, some (.inr (.inl 0)), none, some (.inr (.inl 20)), none] [] H).bind fun u1 => (asI u1.1).bind fun i2 => bif decide ((i2 : Int32) = 0) then G 169 28 [some (.inl x0), some (.inl x1)] [] u1.2 else (G 130 0 [some (.inr (.inl x1.toInt64)), none, some (.inr (.inl 0)), none, some (.inr (.inl 20)), none] [] u1.2).bind fun u3 => (asI u3.1).bind fun i4 => bif decide ((i4 : Int32) = 0) then G 169 28 [some (.inl x0), some (.inl x1)] [] u3.2 else G 169 29 [some (.inl x0), some (.inl x1)] [.inl 1] u3.2) := by
  refine Eq.trans (e1 hG PT_169 k169_0 _ _ _) ?_
  show G 169 1 [some (.inl x0), some (.inl x1)] [.inl x0] H = _
  refine Eq.trans (e1 hG PT_169 k169_1 _ _ _) ?_
  show G 169 2 [some (.inl x0), some (.inl x1)] [.inr (.inl x0.toInt64)] H = _
  refine Eq.trans (e1 hG PT_169 k169_2 _ _ _) ?_
  show G 169 3 [some (.inl x0), some (.inl x1)] [.inr (.inl 0), .inr (.inl x0.toInt64)] H = _
  refine Eq.trans (e1 hG PT_169 k169_3 _ _ _) ?_
  show G 169 6 [some (.inl x0), some (.inl x1)] [.inr (.inl 20), .inr (.inl 0), .inr (.inl x0.toInt64)] H = _
  refine Eq.trans (e1 hG PT_169 k169_6 _ _ _) ?_
  refine bdc fun u1 => ?_
  refine bdc fun i2 => ?_
  show G 169 9 [some (.inl x0), some (.inl x1)] [.inl i2] u1.2 = _
  refine Eq.trans (e1 hG PT_169 k169_9 _ _ _) ?_
  refine bfc ?_ ?_
  · rfl
  · show G 169 12 [some (.inl x0), some (.inl x1)] [] u1.2 = _
    refine Eq.trans (e1 hG PT_169 k169_12 _ _ _) ?_
    show G 169 13 [some (.inl x0), some (.inl x1)] [.inl x1] u1.2 = _
    refine Eq.trans (e1 hG PT_169 k169_13 _ _ _) ?_
    show G 169 14 [some (.inl x0), some (.inl x1)] [.inr (.inl x1.toInt64)] u1.2 = _
    refine Eq.trans (e1 hG PT_169 k169_14 _ _ _) ?_
    show G 169 15 [some (.inl x0), some (.inl x1)] [.inr (.inl 0), .inr (.inl x1.toInt64)] u1.2 = _
    refine Eq.trans (e1 hG PT_169 k169_15 _ _ _) ?_
    show G 169 18 [some (.inl x0), some (.inl x1)] [.inr (.inl 20), .inr (.inl 0), .inr (.inl x1.toInt64)] u1.2 = _
    refine Eq.trans (e1 hG PT_169 k169_18 _ _ _) ?_
    refine bdc fun u3 => ?_
    refine bdc fun i4 => ?_
    show G 169 21 [some (.inl x0), some (.inl x1)] [.inl i4] u3.2 = _
    refine Eq.trans (e1 hG PT_169 k169_21 _ _ _) ?_
    refine bfc ?_ ?_
    · rfl
    · show G 169 24 [some (.inl x0), some (.inl x1)] [] u3.2 = _
      refine Eq.trans (e1 hG PT_169 k169_24 _ _ _) ?_
      show G 169 25 [some (.inl x0), some (.inl x1)] [.inl 1] u3.2 = _
      refine Eq.trans (e1 hG PT_169 k169_25 _ _ _) ?_
      rfl
theorem b169_28 {G : AG} (hG : FIX G) (x0 : Int32) (x1 : Int32) (H : Hp) : G 169 28 [some (.inl x0), some (.inl x1)] [] H = (G 169 29 [some (.inl x0), some (.inl x1)] [.inl 0] H) := by
  refine Eq.trans (e1 hG PT_169 k169_28 _ _ _) ?_
  rfl
theorem b169_29 {G : AG} (hG : FIX G) (x0 : Int32) (x1 : Int32) (s0 : Int32) (H : Hp) : G 169 29 [some (.inl x0), some (.inl x1)] [.inl s0] H = (retZ s0 H) := by
  exact e1 hG PT_169 k169_29 _ _ _
-- StepsAheadModel.valueOf(IIII)J
theorem PT_170 : PT 170 = pt170 := rfl
theorem k170_0 : lkp pt170 0 = iP 1 (fK (.inr (.inl 0))) := rfl
theorem k170_1 : lkp pt170 1 = iP 3 (fLst 5) := rfl
theorem k170_3 : lkp pt170 3 = iP 4 (fK (.inr (.inl 1))) := rfl
theorem k170_4 : lkp pt170 4 = iP 6 (fLst 7) := rfl
theorem k170_6 : lkp pt170 6 = iP 7 (fK (.inl 0)) := rfl
theorem k170_7 : lkp pt170 7 = iP 9 (fIst 9) := rfl
theorem k170_9 : lkp pt170 9 = iP 11 (fIld 9) := rfl
theorem k170_11 : lkp pt170 11 = iP 13 (fK (.inl 6)) := rfl
theorem k170_13 : lkp pt170 13 = iB 16 91 (b2 (fun x y => decide (y ≤ x))) := rfl
theorem k170_16 : lkp pt170 16 = iP 18 (fJld 7) := rfl
theorem k170_18 : lkp pt170 18 = iP 20 (fLst 10) := rfl
theorem k170_20 : lkp pt170 20 = iP 21 (fK (.inl 0)) := rfl
theorem k170_21 : lkp pt170 21 = iP 23 (fIst 12) := rfl
theorem k170_23 : lkp pt170 23 = iP 25 (fIld 9) := rfl
theorem k170_25 : lkp pt170 25 = iP 27 (fIld 12) := rfl
theorem k170_27 : lkp pt170 27 = iP 28 (f2I (fun x y => x + y)) := rfl
theorem k170_28 : lkp pt170 28 = iP 30 (fK (.inl 6)) := rfl
theorem k170_30 : lkp pt170 30 = iB 33 78 (b2 (fun x y => decide (y ≤ x))) := rfl
theorem k170_33 : lkp pt170 33 = iP 35 (fJld 5) := rfl
theorem k170_35 : lkp pt170 35 = iP 36 (fAld 0) := rfl
theorem k170_36 : lkp pt170 36 = iRR 39 (gtR 67) := rfl
theorem k170_39 : lkp pt170 39 = iP 42 (fK (.inl 252)) := rfl
theorem k170_42 : lkp pt170 42 = iP 43 (fK (.inl 2)) := rfl
theorem k170_43 : lkp pt170 43 = iP 44 (fIld 1) := rfl
theorem k170_44 : lkp pt170 44 = iP 45 (f2I (fun x y => x * y)) := rfl
theorem k170_45 : lkp pt170 45 = iP 46 (fIld 2) := rfl
theorem k170_46 : lkp pt170 46 = iP 47 (f2I (fun x y => x + y)) := rfl
theorem k170_47 : lkp pt170 47 = iP 48 (f2I (fun x y => x * y)) := rfl
theorem k170_48 : lkp pt170 48 = iP 49 (fAld 0) := rfl
theorem k170_49 : lkp pt170 49 = iP 51 (fIld 9) := rfl
theorem k170_51 : lkp pt170 51 = iP 53 (fIld 12) := rfl
theorem k170_53 : lkp pt170 53 = iCK 56 12 166 3 3 1 := rfl
theorem k170_56 : lkp pt170 56 = iP 57 (f2I (fun x y => x + y)) := rfl
theorem k170_57 : lkp pt170 57 = iRJ 58 qAJ := rfl
theorem k170_58 : lkp pt170 58 = iP 60 (fJld 10) := rfl
theorem k170_60 : lkp pt170 60 = iP 61 (f2J (fun x y => x * y)) := rfl
theorem k170_61 : lkp pt170 61 = iP 62 (f2J (fun x y => x + y)) := rfl
theorem k170_62 : lkp pt170 62 = iP 64 (fLst 5) := rfl
theorem k170_64 : lkp pt170 64 = iP 66 (fJld 10) := rfl
theorem k170_66 : lkp pt170 66 = iP 68 (fIld 4) := rfl
theorem k170_68 : lkp pt170 68 = iP 69 fI2l := rfl
theorem k170_69 : lkp pt170 69 = iP 70 (f2J (fun x y => x * y)) := rfl
theorem k170_70 : lkp pt170 70 = iP 72 (fLst 10) := rfl
theorem k170_72 : lkp pt170 72 = iP 75 (fInc 12 1) := rfl
theorem k170_75 : lkp pt170 75 = iP 23 fGo := rfl
theorem k170_78 : lkp pt170 78 = iP 80 (fJld 7) := rfl
theorem k170_80 : lkp pt170 80 = iP 81 (fIld 3) := rfl
theorem k170_81 : lkp pt170 81 = iP 82 fI2l := rfl
theorem k170_82 : lkp pt170 82 = iP 83 (f2J (fun x y => x * y)) := rfl
theorem k170_83 : lkp pt170 83 = iP 85 (fLst 7) := rfl
theorem k170_85 : lkp pt170 85 = iP 88 (fInc 9 1) := rfl
theorem k170_88 : lkp pt170 88 = iP 9 fGo := rfl
theorem k170_91 : lkp pt170 91 = iP 93 (fJld 5) := rfl
theorem k170_93 : lkp pt170 93 = iP 96 (fK (.inr (.inl 8640))) := rfl
theorem k170_96 : lkp pt170 96 = iRJ 97 (q2J (fun x y => x - x / y * y)) := rfl
theorem k170_97 : lkp pt170 97 = iP 99 (fLst 9) := rfl
theorem k170_99 : lkp pt170 99 = iP 101 (fJld 5) := rfl
theorem k170_101 : lkp pt170 101 = iP 104 (fK (.inr (.inl 8640))) := rfl
theorem k170_104 : lkp pt170 104 = iRJ 105 (q2J (fun x y => x / y)) := rfl
theorem k170_105 : lkp pt170 105 = iP 106 (fIld 2) := rfl
theorem k170_106 : lkp pt170 106 = iP 107 (fK (.inl 1)) := rfl
theorem k170_107 : lkp pt170 107 = iB 110 127 (b2 (fun x y => decide (x ≠ y))) := rfl
theorem k170_110 : lkp pt170 110 = iP 112 (fJld 9) := rfl
theorem k170_112 : lkp pt170 112 = iP 113 (fK (.inr (.inl 0))) := rfl
theorem k170_113 : lkp pt170 113 = iP 114 fLcmp := rfl
theorem k170_114 : lkp pt170 114 = iB 117 123 (b1 (fun x => decide (0 ≤ x))) := rfl
theorem k170_117 : lkp pt170 117 = iP 120 (fK (.inr (.inl (-1)))) := rfl
theorem k170_120 : lkp pt170 120 = iP 139 fGo := rfl
theorem k170_123 : lkp pt170 123 = iP 124 (fK (.inr (.inl 0))) := rfl
theorem k170_124 : lkp pt170 124 = iP 139 fGo := rfl
theorem k170_127 : lkp pt170 127 = iP 129 (fJld 9) := rfl
theorem k170_129 : lkp pt170 129 = iP 130 (fK (.inr (.inl 0))) := rfl
theorem k170_130 : lkp pt170 130 = iP 131 fLcmp := rfl
theorem k170_131 : lkp pt170 131 = iB 134 138 (b1 (fun x => decide (x ≤ 0))) := rfl
theorem k170_134 : lkp pt170 134 = iP 135 (fK (.inr (.inl 1))) := rfl
theorem k170_135 : lkp pt170 135 = iP 139 fGo := rfl
theorem k170_138 : lkp pt170 138 = iP 139 (fK (.inr (.inl 0))) := rfl
theorem k170_139 : lkp pt170 139 = iP 140 (f2J (fun x y => x + y)) := rfl
theorem k170_140 : lkp pt170 140 = iRet rJ := rfl
theorem b170_0 {G : AG} (hG : FIX G) (x0 : Nat) (x1 : Int32) (x2 : Int32) (x3 : Int32) (x4 : Int32) (H : Hp) : G 170 0 [some (.inr (.inr x0)), some (.inl x1), some (.inl x2), some (.inl x3), some (.inl x4), none, none, none, none, none, none, none, none] [] H = (G 170 9 [some (.inr (.inr x0)), some (.inl x1), some (.inl x2), some (.inl x3), some (.inl x4), some (.inr (.inl 0)), none, some (.inr (.inl 1)), none, some (.inl 0), none, none, none] [] H) := by
  refine Eq.trans (e1 hG PT_170 k170_0 _ _ _) ?_
  show G 170 1 [some (.inr (.inr x0)), some (.inl x1), some (.inl x2), some (.inl x3), some (.inl x4), none, none, none, none, none, none, none, none] [.inr (.inl 0)] H = _
  refine Eq.trans (e1 hG PT_170 k170_1 _ _ _) ?_
  show G 170 3 [some (.inr (.inr x0)), some (.inl x1), some (.inl x2), some (.inl x3), some (.inl x4), some (.inr (.inl 0)), none, none, none, none, none, none, none] [] H = _
  refine Eq.trans (e1 hG PT_170 k170_3 _ _ _) ?_
  show G 170 4 [some (.inr (.inr x0)), some (.inl x1), some (.inl x2), some (.inl x3), some (.inl x4), some (.inr (.inl 0)), none, none, none, none, none, none, none] [.inr (.inl 1)] H = _
  refine Eq.trans (e1 hG PT_170 k170_4 _ _ _) ?_
  show G 170 6 [some (.inr (.inr x0)), some (.inl x1), some (.inl x2), some (.inl x3), some (.inl x4), some (.inr (.inl 0)), none, some (.inr (.inl 1)), none, none, none, none, none] [] H = _
  refine Eq.trans (e1 hG PT_170 k170_6 _ _ _) ?_
  show G 170 7 [some (.inr (.inr x0)), some (.inl x1), some (.inl x2), some (.inl x3), some (.inl x4), some (.inr (.inl 0)), none, some (.inr (.inl 1)), none, none, none, none, none] [.inl 0] H = _
  refine Eq.trans (e1 hG PT_170 k170_7 _ _ _) ?_
  rfl
theorem b170_9 {G : AG} (hG : FIX G) (x0 : Nat) (x1 : Int32) (x2 : Int32) (x3 : Int32) (x4 : Int32) (x5 : Int64) (x7 : Int64) (x9 : Int32) (o10 : Option AV) (o12 : Option AV) (H : Hp) : G 170 9 [some (.inr (.inr x0)), some (.inl x1), some (.inl x2), some (.inl x3), some (.inl x4), some (.inr (.inl x5)), none, some (.inr (.inl x7)), none, some (.inl x9), o10, none, o12] [] H = (bif decide ((6 : Int32) ≤ (x9 : Int32)) then ((if (8640 : Int64) = 0 then none else some (x5 - x5 / 8640 * 8640))).bind fun j1 => ((if (8640 : Int64) = 0 then none else some (x5 / 8640))).bind fun j2 => bif decide ((x2 : Int32) ≠ (1 : Int32)) then bif decide (((lg_cmp j1 0) : Int32) ≤ 0) then G 170 139 [some (.inr (.inr x0)), some (.inl x1), some (.inl x2), some (.inl x3), some (.inl x4), some (.inr (.inl x5)), none, some (.inr (.inl x7)), none, some (.inr (.inl j1)), none, none, o12] [.inr (.inl 0), .inr (.inl j2)] H else G 170 139 [some (.inr (.inr x0)), some (.inl x1), some (.inl x2), some (.inl x3), some (.inl x4), some (.inr (.inl x5)), none, some (.inr (.inl x7)), none, some (.inr (.inl j1)), none, none, o12] [.inr (.inl 1), .inr (.inl j2)] H else bif decide (0 ≤ ((lg_cmp j1 0) : Int32)) then G 170 139 [some (.inr (.inr x0)), some (.inl x1), some (.inl x2), some (.inl x3), some (.inl x4), some (.inr (.inl x5)), none, some (.inr (.inl x7)), none, some (.inr (.inl j1)), none, none, o12] [.inr (.inl 0), .inr (.inl j2)] H else G 170 139 [some (.inr (.inr x0)), some (.inl x1), some (.inl x2), some (.inl x3), some (.inl x4), some (.inr (.inl x5)), none, some (.inr (.inl x7)), none, some (.inr (.inl j1)), none, none, o12] [.inr (.inl (-1)), .inr (.inl j2)] H else G 170 23 [some (.inr (.inr x0)), some (.inl x1), some (.inl x2), some (.inl x3), some (.inl x4), some (.inr (.inl x5)), none, some (.inr (.inl x7)), none, some (.inl x9), some (.inr (.inl x7)), none, some (.inl 0)] [] H) := by
  refine Eq.trans (e1 hG PT_170 k170_9 _ _ _) ?_
  show G 170 11 [some (.inr (.inr x0)), some (.inl x1), some (.inl x2), some (.inl x3), some (.inl x4), some (.inr (.inl x5)), none, some (.inr (.inl x7)), none, some (.inl x9), o10, none, o12] [.inl x9] H = _
  refine Eq.trans (e1 hG PT_170 k170_11 _ _ _) ?_
  show G 170 13 [some (.inr (.inr x0)), some (.inl x1), some (.inl x2), some (.inl x3), some (.inl x4), some (.inr (.inl x5)), none, some (.inr (.inl x7)), none, some (.inl x9), o10, none, o12] [.inl 6, .inl x9] H = _
  refine Eq.trans (e1 hG PT_170 k170_13 _ _ _) ?_
  refine bfc ?_ ?_
  · show G 170 91 [some (.inr (.inr x0)), some (.inl x1), some (.inl x2), some (.inl x3), some (.inl x4), some (.inr (.inl x5)), none, some (.inr (.inl x7)), none, some (.inl x9), o10, none, o12] [] H = _
    refine Eq.trans (e1 hG PT_170 k170_91 _ _ _) ?_
    show G 170 93 [some (.inr (.inr x0)), some (.inl x1), some (.inl x2), some (.inl x3), some (.inl x4), some (.inr (.inl x5)), none, some (.inr (.inl x7)), none, some (.inl x9), o10, none, o12] [.inr (.inl x5)] H = _
    refine Eq.trans (e1 hG PT_170 k170_93 _ _ _) ?_
    show G 170 96 [some (.inr (.inr x0)), some (.inl x1), some (.inl x2), some (.inl x3), some (.inl x4), some (.inr (.inl x5)), none, some (.inr (.inl x7)), none, some (.inl x9), o10, none, o12] [.inr (.inl 8640), .inr (.inl x5)] H = _
    refine Eq.trans (e1 hG PT_170 k170_96 _ _ _) ?_
    show ((if (8640 : Int64) = 0 then none else some (x5 - x5 / 8640 * 8640))).bind (fun j1 => G 170 97 [some (.inr (.inr x0)), some (.inl x1), some (.inl x2), some (.inl x3), some (.inl x4), some (.inr (.inl x5)), none, some (.inr (.inl x7)), none, some (.inl x9), o10, none, o12] [.inr (.inl j1)] H) = _
    refine bdc (q := (if (8640 : Int64) = 0 then none else some (x5 - x5 / 8640 * 8640))) fun j1 => ?_
    show G 170 97 [some (.inr (.inr x0)), some (.inl x1), some (.inl x2), some (.inl x3), some (.inl x4), some (.inr (.inl x5)), none, some (.inr (.inl x7)), none, some (.inl x9), o10, none, o12] [.inr (.inl j1)] H = _
    refine Eq.trans (e1 hG PT_170 k170_97 _ _ _) ?_
    show G 170 99 [some (.inr (.inr x0)), some (.inl x1), some (.inl x2), some (.inl x3), some (.inl x4), some (.inr (.inl x5)), none, some (.inr (.inl x7)), none, some (.inr (.inl j1)), none, none, o12] [] H = _
    refine Eq.trans (e1 hG PT_170 k170_99 _ _ _) ?_
    show G 170 101 [some (.inr (.inr x0)), some (.inl x1), some (.inl x2), some (.inl x3), some (.inl x4), some (.inr (.inl x5)), none, some (.inr (.inl x7)), none, some (.inr (.inl j1)), none, none, o12] [.inr (.inl x5)] H = _
    refine Eq.trans (e1 hG PT_170 k170_101 _ _ _) ?_
    show G 170 104 [some (.inr (.inr x0)), some (.inl x1), some (.inl x2), some (.inl x3), some (.inl x4), some (.inr (.inl x5)), none, some (.inr (.inl x7)), none, some (.inr (.inl j1)), none, none, o12] [.inr (.inl 8640), .inr (.inl x5)] H = _
    refine Eq.trans (e1 hG PT_170 k170_104 _ _ _) ?_
    show ((if (8640 : Int64) = 0 then none else some (x5 / 8640))).bind (fun j2 => G 170 105 [some (.inr (.inr x0)), some (.inl x1), some (.inl x2), some (.inl x3), some (.inl x4), some (.inr (.inl x5)), none, some (.inr (.inl x7)), none, some (.inr (.inl j1)), none, none, o12] [.inr (.inl j2)] H) = _
    refine bdc (q := (if (8640 : Int64) = 0 then none else some (x5 / 8640))) fun j2 => ?_
    show G 170 105 [some (.inr (.inr x0)), some (.inl x1), some (.inl x2), some (.inl x3), some (.inl x4), some (.inr (.inl x5)), none, some (.inr (.inl x7)), none, some (.inr (.inl j1)), none, none, o12] [.inr (.inl j2)] H = _
    refine Eq.trans (e1 hG PT_170 k170_105 _ _ _) ?_
    show G 170 106 [some (.inr (.inr x0)), some (.inl x1), some (.inl x2), some (.inl x3), some (.inl x4), some (.inr (.inl x5)), none, some (.inr (.inl x7)), none, some (.inr (.inl j1)), none, none, o12] [.inl x2, .inr (.inl j2)] H = _
    refine Eq.trans (e1 hG PT_170 k170_106 _ _ _) ?_
    show G 170 107 [some (.inr (.inr x0)), some (.inl x1), some (.inl x2), some (.inl x3), some (.inl x4), some (.inr (.inl x5)), none, some (.inr (.inl x7)), none, some (.inr (.inl j1)), none, none, o12] [.inl 1, .inl x2, .inr (.inl j2)] H = _
    refine Eq.trans (e1 hG PT_170 k170_107 _ _ _) ?_
    refine bfc ?_ ?_
    · show G 170 127 [some (.inr (.inr x0)), some (.inl x1), some (.inl x2), some (.inl x3), some (.inl x4), some (.inr (.inl x5)), none, some (.inr (.inl x7)), none, some (.inr (.inl j1)), none, none, o12] [.inr (.inl j2)] H = _
      refine Eq.trans (e1 hG PT_170 k170_127 _ _ _) ?_
      show G 170 129 [some (.inr (.inr x0)), some (.inl x1), some (.inl x2), some (.inl x3), some (.inl x4), some (.inr (.inl x5)), none, some (.inr (.inl x7)), none, some (.inr (.inl j1)), none, none, o12] [.inr (.inl j1), .inr (.inl j2)] H = _
      refine Eq.trans (e1 hG PT_170 k170_129 _ _ _) ?_
      show G 170 130 [some (.inr (.inr x0)), some (.inl x1), some (.inl x2), some (.inl x3), some (.inl x4), some (.inr (.inl x5)), none, some (.inr (.inl x7)), none, some (.inr (.inl j1)), none, none, o12] [.inr (.inl 0), .inr (.inl j1), .inr (.inl j2)] H = _
      refine Eq.trans (e1 hG PT_170 k170_130 _ _ _) ?_
      show G 170 131 [some (.inr (.inr x0)), some (.inl x1), some (.inl x2), some (.inl x3), some (.inl x4), some (.inr (.inl x5)), none, some (.inr (.inl x7)), none, some (.inr (.inl j1)), none, none, o12] [.inl (lg_cmp j1 0), .inr (.inl j2)] H = _
      refine Eq.trans (e1 hG PT_170 k170_131 _ _ _) ?_
      refine bfc ?_ ?_
      · show G 170 138 [some (.inr (.inr x0)), some (.inl x1), some (.inl x2), some (.inl x3), some (.inl x4), some (.inr (.inl x5)), none, some (.inr (.inl x7)), none, some (.inr (.inl j1)), none, none, o12] [.inr (.inl j2)] H = _
        refine Eq.trans (e1 hG PT_170 k170_138 _ _ _) ?_
        rfl
      · show G 170 134 [some (.inr (.inr x0)), some (.inl x1), some (.inl x2), some (.inl x3), some (.inl x4), some (.inr (.inl x5)), none, some (.inr (.inl x7)), none, some (.inr (.inl j1)), none, none, o12] [.inr (.inl j2)] H = _
        refine Eq.trans (e1 hG PT_170 k170_134 _ _ _) ?_
        show G 170 135 [some (.inr (.inr x0)), some (.inl x1), some (.inl x2), some (.inl x3), some (.inl x4), some (.inr (.inl x5)), none, some (.inr (.inl x7)), none, some (.inr (.inl j1)), none, none, o12] [.inr (.inl 1), .inr (.inl j2)] H = _
        refine Eq.trans (e1 hG PT_170 k170_135 _ _ _) ?_
        rfl
    · show G 170 110 [some (.inr (.inr x0)), some (.inl x1), some (.inl x2), some (.inl x3), some (.inl x4), some (.inr (.inl x5)), none, some (.inr (.inl x7)), none, some (.inr (.inl j1)), none, none, o12] [.inr (.inl j2)] H = _
      refine Eq.trans (e1 hG PT_170 k170_110 _ _ _) ?_
      show G 170 112 [some (.inr (.inr x0)), some (.inl x1), some (.inl x2), some (.inl x3), some (.inl x4), some (.inr (.inl x5)), none, some (.inr (.inl x7)), none, some (.inr (.inl j1)), none, none, o12] [.inr (.inl j1), .inr (.inl j2)] H = _
      refine Eq.trans (e1 hG PT_170 k170_112 _ _ _) ?_
      show G 170 113 [some (.inr (.inr x0)), some (.inl x1), some (.inl x2), some (.inl x3), some (.inl x4), some (.inr (.inl x5)), none, some (.inr (.inl x7)), none, some (.inr (.inl j1)), none, none, o12] [.inr (.inl 0), .inr (.inl j1), .inr (.inl j2)] H = _
      refine Eq.trans (e1 hG PT_170 k170_113 _ _ _) ?_
      show G 170 114 [some (.inr (.inr x0)), some (.inl x1), some (.inl x2), some (.inl x3), some (.inl x4), some (.inr (.inl x5)), none, some (.inr (.inl x7)), none, some (.inr (.inl j1)), none, none, o12] [.inl (lg_cmp j1 0), .inr (.inl j2)] H = _
      refine Eq.trans (e1 hG PT_170 k170_114 _ _ _) ?_
      refine bfc ?_ ?_
      · show G 170 123 [some (.inr (.inr x0)), some (.inl x1), some (.inl x2), some (.inl x3), some (.inl x4), some (.inr (.inl x5)), none, some (.inr (.inl x7)), none, some (.inr (.inl j1)), none, none, o12] [.inr (.inl j2)] H = _
        refine Eq.trans (e1 hG PT_170 k170_123 _ _ _) ?_
        show G 170 124 [some (.inr (.inr x0)), some (.inl x1), some (.inl x2), some (.inl x3), some (.inl x4), some (.inr (.inl x5)), none, some (.inr (.inl x7)), none, some (.inr (.inl j1)), none, none, o12] [.inr (.inl 0), .inr (.inl j2)] H = _
        refine Eq.trans (e1 hG PT_170 k170_124 _ _ _) ?_
        rfl
      · show G 170 117 [some (.inr (.inr x0)), some (.inl x1), some (.inl x2), some (.inl x3), some (.inl x4), some (.inr (.inl x5)), none, some (.inr (.inl x7)), none, some (.inr (.inl j1)), none, none, o12] [.inr (.inl j2)] H = _
        refine Eq.trans (e1 hG PT_170 k170_117 _ _ _) ?_
        show G 170 120 [some (.inr (.inr x0)), some (.inl x1), some (.inl x2), some (.inl x3), some (.inl x4), some (.inr (.inl x5)), none, some (.inr (.inl x7)), none, some (.inr (.inl j1)), none, none, o12] [.inr (.inl (-1)), .inr (.inl j2)] H = _
        refine Eq.trans (e1 hG PT_170 k170_120 _ _ _) ?_
        rfl
  · show G 170 16 [some (.inr (.inr x0)), some (.inl x1), some (.inl x2), some (.inl x3), some (.inl x4), some (.inr (.inl x5)), none, some (.inr (.inl x7)), none, some (.inl x9), o10, none, o12] [] H = _
    refine Eq.trans (e1 hG PT_170 k170_16 _ _ _) ?_
    show G 170 18 [some (.inr (.inr x0)), some (.inl x1), some (.inl x2), some (.inl x3), some (.inl x4), some (.inr (.inl x5)), none, some (.inr (.inl x7)), none, some (.inl x9), o10, none, o12] [.inr (.inl x7)] H = _
    refine Eq.trans (e1 hG PT_170 k170_18 _ _ _) ?_
    show G 170 20 [some (.inr (.inr x0)), some (.inl x1), some (.inl x2), some (.inl x3), some (.inl x4), some (.inr (.inl x5)), none, some (.inr (.inl x7)), none, some (.inl x9), some (.inr (.inl x7)), none, o12] [] H = _
    refine Eq.trans (e1 hG PT_170 k170_20 _ _ _) ?_
    show G 170 21 [some (.inr (.inr x0)), some (.inl x1), some (.inl x2), some (.inl x3), some (.inl x4), some (.inr (.inl x5)), none, some (.inr (.inl x7)), none, some (.inl x9), some (.inr (.inl x7)), none, o12] [.inl 0] H = _
    refine Eq.trans (e1 hG PT_170 k170_21 _ _ _) ?_
    rfl
theorem b170_23 {G : AG} (hG : FIX G) (x0 : Nat) (x1 : Int32) (x2 : Int32) (x3 : Int32) (x4 : Int32) (x5 : Int64) (x7 : Int64) (x9 : Int32) (x10 : Int64) (x12 : Int32) (H : Hp) : G 170 23 [some (.inr (.inr x0)), some (.inl x1), some (.inl x2), some (.inl x3), some (.inl x4), some (.inr (.inl x5)), none, some (.inr (.inl x7)), none, some (.inl x9), some (.inr (.inl x10)), none, some (.inl x12)] [] H = (bif decide ((6 : Int32) ≤ ((x9 + x12) : Int32)) then G 170 9 [some (.inr (.inr x0)), some (.inl x1), some (.inl x2), some (.inl x3), some (.inl x4), some (.inr (.inl x5)), none, some (.inr (.inl (x7 * x3.toInt64))), none, some (.inl (x9 + 1)), some (.inr (.inl x10)), none, some (.inl x12)] [] H else (hgR H x0 67).bind fun r1 => bif Nat.beq (H.1 x0).1 12 then (G 166 0 [some (.inr (.inr x0)), some (.inl x9), some (.inl x12)] [] H).bind fun u2 => (asI u2.1).bind fun i3 => (hAJ u2.2 r1 (((252 * ((2 * x1) + x2)) + i3))).bind fun j4 => G 170 23 [some (.inr (.inr x0)), some (.inl x1), some (.inl x2), some (.inl x3), some (.inl x4), some (.inr (.inl (x5 + (j4 * x10)))), none, some (.inr (.inl x7)), none, some (.inl x9), some (.inr (.inl (x10 * x4.toInt64))), none, some (.inl (x12 + 1))] [] u2.2 else none) := by
  refine Eq.trans (e1 hG PT_170 k170_23 _ _ _) ?_
  show G 170 25 [some (.inr (.inr x0)), some (.inl x1), some (.inl x2), some (.inl x3), some (.inl x4), some (.inr (.inl x5)), none, some (.inr (.inl x7)), none, some (.inl x9), some (.inr (.inl x10)), none, some (.inl x12)] [.inl x9] H = _
  refine Eq.trans (e1 hG PT_170 k170_25 _ _ _) ?_
  show G 170 27 [some (.inr (.inr x0)), some (.inl x1), some (.inl x2), some (.inl x3), some (.inl x4), some (.inr (.inl x5)), none, some (.inr (.inl x7)), none, some (.inl x9), some (.inr (.inl x10)), none, some (.inl x12)] [.inl x12, .inl x9] H = _
  refine Eq.trans (e1 hG PT_170 k170_27 _ _ _) ?_
  show G 170 28 [some (.inr (.inr x0)), some (.inl x1), some (.inl x2), some (.inl x3), some (.inl x4), some (.inr (.inl x5)), none, some (.inr (.inl x7)), none, some (.inl x9), some (.inr (.inl x10)), none, some (.inl x12)] [.inl (x9 + x12)] H = _
  refine Eq.trans (e1 hG PT_170 k170_28 _ _ _) ?_
  show G 170 30 [some (.inr (.inr x0)), some (.inl x1), some (.inl x2), some (.inl x3), some (.inl x4), some (.inr (.inl x5)), none, some (.inr (.inl x7)), none, some (.inl x9), some (.inr (.inl x10)), none, some (.inl x12)] [.inl 6, .inl (x9 + x12)] H = _
  refine Eq.trans (e1 hG PT_170 k170_30 _ _ _) ?_
  refine bfc ?_ ?_
  · show G 170 78 [some (.inr (.inr x0)), some (.inl x1), some (.inl x2), some (.inl x3), some (.inl x4), some (.inr (.inl x5)), none, some (.inr (.inl x7)), none, some (.inl x9), some (.inr (.inl x10)), none, some (.inl x12)] [] H = _
    refine Eq.trans (e1 hG PT_170 k170_78 _ _ _) ?_
    show G 170 80 [some (.inr (.inr x0)), some (.inl x1), some (.inl x2), some (.inl x3), some (.inl x4), some (.inr (.inl x5)), none, some (.inr (.inl x7)), none, some (.inl x9), some (.inr (.inl x10)), none, some (.inl x12)] [.inr (.inl x7)] H = _
    refine Eq.trans (e1 hG PT_170 k170_80 _ _ _) ?_
    show G 170 81 [some (.inr (.inr x0)), some (.inl x1), some (.inl x2), some (.inl x3), some (.inl x4), some (.inr (.inl x5)), none, some (.inr (.inl x7)), none, some (.inl x9), some (.inr (.inl x10)), none, some (.inl x12)] [.inl x3, .inr (.inl x7)] H = _
    refine Eq.trans (e1 hG PT_170 k170_81 _ _ _) ?_
    show G 170 82 [some (.inr (.inr x0)), some (.inl x1), some (.inl x2), some (.inl x3), some (.inl x4), some (.inr (.inl x5)), none, some (.inr (.inl x7)), none, some (.inl x9), some (.inr (.inl x10)), none, some (.inl x12)] [.inr (.inl x3.toInt64), .inr (.inl x7)] H = _
    refine Eq.trans (e1 hG PT_170 k170_82 _ _ _) ?_
    show G 170 83 [some (.inr (.inr x0)), some (.inl x1), some (.inl x2), some (.inl x3), some (.inl x4), some (.inr (.inl x5)), none, some (.inr (.inl x7)), none, some (.inl x9), some (.inr (.inl x10)), none, some (.inl x12)] [.inr (.inl (x7 * x3.toInt64))] H = _
    refine Eq.trans (e1 hG PT_170 k170_83 _ _ _) ?_
    show G 170 85 [some (.inr (.inr x0)), some (.inl x1), some (.inl x2), some (.inl x3), some (.inl x4), some (.inr (.inl x5)), none, some (.inr (.inl (x7 * x3.toInt64))), none, some (.inl x9), some (.inr (.inl x10)), none, some (.inl x12)] [] H = _
    refine Eq.trans (e1 hG PT_170 k170_85 _ _ _) ?_
    show G 170 88 [some (.inr (.inr x0)), some (.inl x1), some (.inl x2), some (.inl x3), some (.inl x4), some (.inr (.inl x5)), none, some (.inr (.inl (x7 * x3.toInt64))), none, some (.inl (x9 + 1)), some (.inr (.inl x10)), none, some (.inl x12)] [] H = _
    refine Eq.trans (e1 hG PT_170 k170_88 _ _ _) ?_
    rfl
  · show G 170 33 [some (.inr (.inr x0)), some (.inl x1), some (.inl x2), some (.inl x3), some (.inl x4), some (.inr (.inl x5)), none, some (.inr (.inl x7)), none, some (.inl x9), some (.inr (.inl x10)), none, some (.inl x12)] [] H = _
    refine Eq.trans (e1 hG PT_170 k170_33 _ _ _) ?_
    show G 170 35 [some (.inr (.inr x0)), some (.inl x1), some (.inl x2), some (.inl x3), some (.inl x4), some (.inr (.inl x5)), none, some (.inr (.inl x7)), none, some (.inl x9), some (.inr (.inl x10)), none, some (.inl x12)] [.inr (.inl x5)] H = _
    refine Eq.trans (e1 hG PT_170 k170_35 _ _ _) ?_
    show G 170 36 [some (.inr (.inr x0)), some (.inl x1), some (.inl x2), some (.inl x3), some (.inl x4), some (.inr (.inl x5)), none, some (.inr (.inl x7)), none, some (.inl x9), some (.inr (.inl x10)), none, some (.inl x12)] [.inr (.inr x0), .inr (.inl x5)] H = _
    refine Eq.trans (e1 hG PT_170 k170_36 _ _ _) ?_
    refine bdc fun r1 => ?_
    show G 170 39 [some (.inr (.inr x0)), some (.inl x1), some (.inl x2), some (.inl x3), some (.inl x4), some (.inr (.inl x5)), none, some (.inr (.inl x7)), none, some (.inl x9), some (.inr (.inl x10)), none, some (.inl x12)] [.inr (.inr r1), .inr (.inl x5)] H = _
    refine Eq.trans (e1 hG PT_170 k170_39 _ _ _) ?_
    show G 170 42 [some (.inr (.inr x0)), some (.inl x1), some (.inl x2), some (.inl x3), some (.inl x4), some (.inr (.inl x5)), none, some (.inr (.inl x7)), none, some (.inl x9), some (.inr (.inl x10)), none, some (.inl x12)] [.inl 252, .inr (.inr r1), .inr (.inl x5)] H = _
    refine Eq.trans (e1 hG PT_170 k170_42 _ _ _) ?_
    show G 170 43 [some (.inr (.inr x0)), some (.inl x1), some (.inl x2), some (.inl x3), some (.inl x4), some (.inr (.inl x5)), none, some (.inr (.inl x7)), none, some (.inl x9), some (.inr (.inl x10)), none, some (.inl x12)] [.inl 2, .inl 252, .inr (.inr r1), .inr (.inl x5)] H = _
    refine Eq.trans (e1 hG PT_170 k170_43 _ _ _) ?_
    show G 170 44 [some (.inr (.inr x0)), some (.inl x1), some (.inl x2), some (.inl x3), some (.inl x4), some (.inr (.inl x5)), none, some (.inr (.inl x7)), none, some (.inl x9), some (.inr (.inl x10)), none, some (.inl x12)] [.inl x1, .inl 2, .inl 252, .inr (.inr r1), .inr (.inl x5)] H = _
    refine Eq.trans (e1 hG PT_170 k170_44 _ _ _) ?_
    show G 170 45 [some (.inr (.inr x0)), some (.inl x1), some (.inl x2), some (.inl x3), some (.inl x4), some (.inr (.inl x5)), none, some (.inr (.inl x7)), none, some (.inl x9), some (.inr (.inl x10)), none, some (.inl x12)] [.inl (2 * x1), .inl 252, .inr (.inr r1), .inr (.inl x5)] H = _
    refine Eq.trans (e1 hG PT_170 k170_45 _ _ _) ?_
    show G 170 46 [some (.inr (.inr x0)), some (.inl x1), some (.inl x2), some (.inl x3), some (.inl x4), some (.inr (.inl x5)), none, some (.inr (.inl x7)), none, some (.inl x9), some (.inr (.inl x10)), none, some (.inl x12)] [.inl x2, .inl (2 * x1), .inl 252, .inr (.inr r1), .inr (.inl x5)] H = _
    refine Eq.trans (e1 hG PT_170 k170_46 _ _ _) ?_
    show G 170 47 [some (.inr (.inr x0)), some (.inl x1), some (.inl x2), some (.inl x3), some (.inl x4), some (.inr (.inl x5)), none, some (.inr (.inl x7)), none, some (.inl x9), some (.inr (.inl x10)), none, some (.inl x12)] [.inl ((2 * x1) + x2), .inl 252, .inr (.inr r1), .inr (.inl x5)] H = _
    refine Eq.trans (e1 hG PT_170 k170_47 _ _ _) ?_
    show G 170 48 [some (.inr (.inr x0)), some (.inl x1), some (.inl x2), some (.inl x3), some (.inl x4), some (.inr (.inl x5)), none, some (.inr (.inl x7)), none, some (.inl x9), some (.inr (.inl x10)), none, some (.inl x12)] [.inl (252 * ((2 * x1) + x2)), .inr (.inr r1), .inr (.inl x5)] H = _
    refine Eq.trans (e1 hG PT_170 k170_48 _ _ _) ?_
    show G 170 49 [some (.inr (.inr x0)), some (.inl x1), some (.inl x2), some (.inl x3), some (.inl x4), some (.inr (.inl x5)), none, some (.inr (.inl x7)), none, some (.inl x9), some (.inr (.inl x10)), none, some (.inl x12)] [.inr (.inr x0), .inl (252 * ((2 * x1) + x2)), .inr (.inr r1), .inr (.inl x5)] H = _
    refine Eq.trans (e1 hG PT_170 k170_49 _ _ _) ?_
    show G 170 51 [some (.inr (.inr x0)), some (.inl x1), some (.inl x2), some (.inl x3), some (.inl x4), some (.inr (.inl x5)), none, some (.inr (.inl x7)), none, some (.inl x9), some (.inr (.inl x10)), none, some (.inl x12)] [.inl x9, .inr (.inr x0), .inl (252 * ((2 * x1) + x2)), .inr (.inr r1), .inr (.inl x5)] H = _
    refine Eq.trans (e1 hG PT_170 k170_51 _ _ _) ?_
    show G 170 53 [some (.inr (.inr x0)), some (.inl x1), some (.inl x2), some (.inl x3), some (.inl x4), some (.inr (.inl x5)), none, some (.inr (.inl x7)), none, some (.inl x9), some (.inr (.inl x10)), none, some (.inl x12)] [.inl x12, .inl x9, .inr (.inr x0), .inl (252 * ((2 * x1) + x2)), .inr (.inr r1), .inr (.inl x5)] H = _
    refine Eq.trans (e1 hG PT_170 k170_53 _ _ _) ?_
    refine bfc ?_ ?_
    · refine bdc fun u2 => ?_
      refine bdc fun i3 => ?_
      show G 170 56 [some (.inr (.inr x0)), some (.inl x1), some (.inl x2), some (.inl x3), some (.inl x4), some (.inr (.inl x5)), none, some (.inr (.inl x7)), none, some (.inl x9), some (.inr (.inl x10)), none, some (.inl x12)] [.inl i3, .inl (252 * ((2 * x1) + x2)), .inr (.inr r1), .inr (.inl x5)] u2.2 = _
      refine Eq.trans (e1 hG PT_170 k170_56 _ _ _) ?_
      show G 170 57 [some (.inr (.inr x0)), some (.inl x1), some (.inl x2), some (.inl x3), some (.inl x4), some (.inr (.inl x5)), none, some (.inr (.inl x7)), none, some (.inl x9), some (.inr (.inl x10)), none, some (.inl x12)] [.inl ((252 * ((2 * x1) + x2)) + i3), .inr (.inr r1), .inr (.inl x5)] u2.2 = _
      refine Eq.trans (e1 hG PT_170 k170_57 _ _ _) ?_
      refine bdc fun j4 => ?_
      show G 170 58 [some (.inr (.inr x0)), some (.inl x1), some (.inl x2), some (.inl x3), some (.inl x4), some (.inr (.inl x5)), none, some (.inr (.inl x7)), none, some (.inl x9), some (.inr (.inl x10)), none, some (.inl x12)] [.inr (.inl j4), .inr (.inl x5)] u2.2 = _
      refine Eq.trans (e1 hG PT_170 k170_58 _ _ _) ?_
      show G 170 60 [some (.inr (.inr x0)), some (.inl x1), some (.inl x2), some (.inl x3), some (.inl x4), some (.inr (.inl x5)), none, some (.inr (.inl x7)), none, some (.inl x9), some (.inr (.inl x10)), none, some (.inl x12)] [.inr (.inl x10), .inr (.inl j4), .inr (.inl x5)] u2.2 = _
      refine Eq.trans (e1 hG PT_170 k170_60 _ _ _) ?_
      show G 170 61 [some (.inr (.inr x0)), some (.inl x1), some (.inl x2), some (.inl x3), some (.inl x4), some (.inr (.inl x5)), none, some (.inr (.inl x7)), none, some (.inl x9), some (.inr (.inl x10)), none, some (.inl x12)] [.inr (.inl (j4 * x10)), .inr (.inl x5)] u2.2 = _
      refine Eq.trans (e1 hG PT_170 k170_61 _ _ _) ?_
      show G 170 62 [some (.inr (.inr x0)), some (.inl x1), some (.inl x2), some (.inl x3), some (.inl x4), some (.inr (.inl x5)), none, some (.inr (.inl x7)), none, some (.inl x9), some (.inr (.inl x10)), none, some (.inl x12)] [.inr (.inl (x5 + (j4 * x10)))] u2.2 = _
      refine Eq.trans (e1 hG PT_170 k170_62 _ _ _) ?_
      show G 170 64 [some (.inr (.inr x0)), some (.inl x1), some (.inl x2), some (.inl x3), some (.inl x4), some (.inr (.inl (x5 + (j4 * x10)))), none, some (.inr (.inl x7)), none, some (.inl x9), some (.inr (.inl x10)), none, some (.inl x12)] [] u2.2 = _
      refine Eq.trans (e1 hG PT_170 k170_64 _ _ _) ?_
      show G 170 66 [some (.inr (.inr x0)), some (.inl x1), some (.inl x2), some (.inl x3), some (.inl x4), some (.inr (.inl (x5 + (j4 * x10)))), none, some (.inr (.inl x7)), none, some (.inl x9), some (.inr (.inl x10)), none, some (.inl x12)] [.inr (.inl x10)] u2.2 = _
      refine Eq.trans (e1 hG PT_170 k170_66 _ _ _) ?_
      show G 170 68 [some (.inr (.inr x0)), some (.inl x1), some (.inl x2), some (.inl x3), some (.inl x4), some (.inr (.inl (x5 + (j4 * x10)))), none, some (.inr (.inl x7)), none, some (.inl x9), some (.inr (.inl x10)), none, some (.inl x12)] [.inl x4, .inr (.inl x10)] u2.2 = _
      refine Eq.trans (e1 hG PT_170 k170_68 _ _ _) ?_
      show G 170 69 [some (.inr (.inr x0)), some (.inl x1), some (.inl x2), some (.inl x3), some (.inl x4), some (.inr (.inl (x5 + (j4 * x10)))), none, some (.inr (.inl x7)), none, some (.inl x9), some (.inr (.inl x10)), none, some (.inl x12)] [.inr (.inl x4.toInt64), .inr (.inl x10)] u2.2 = _
      refine Eq.trans (e1 hG PT_170 k170_69 _ _ _) ?_
      show G 170 70 [some (.inr (.inr x0)), some (.inl x1), some (.inl x2), some (.inl x3), some (.inl x4), some (.inr (.inl (x5 + (j4 * x10)))), none, some (.inr (.inl x7)), none, some (.inl x9), some (.inr (.inl x10)), none, some (.inl x12)] [.inr (.inl (x10 * x4.toInt64))] u2.2 = _
      refine Eq.trans (e1 hG PT_170 k170_70 _ _ _) ?_
      show G 170 72 [some (.inr (.inr x0)), some (.inl x1), some (.inl x2), some (.inl x3), some (.inl x4), some (.inr (.inl (x5 + (j4 * x10)))), none, some (.inr (.inl x7)), none, some (.inl x9), some (.inr (.inl (x10 * x4.toInt64))), none, some (.inl x12)] [] u2.2 = _
      refine Eq.trans (e1 hG PT_170 k170_72 _ _ _) ?_
      show G 170 75 [some (.inr (.inr x0)), some (.inl x1), some (.inl x2), some (.inl x3), some (.inl x4), some (.inr (.inl (x5 + (j4 * x10)))), none, some (.inr (.inl x7)), none, some (.inl x9), some (.inr (.inl (x10 * x4.toInt64))), none, some (.inl (x12 + 1))] [] u2.2 = _
      refine Eq.trans (e1 hG PT_170 k170_75 _ _ _) ?_
      rfl
    · rfl
theorem b170_139 {G : AG} (hG : FIX G) (x0 : Nat) (x1 : Int32) (x2 : Int32) (x3 : Int32) (x4 : Int32) (x5 : Int64) (x7 : Int64) (x9 : Int64) (o12 : Option AV) (s0 : Int64) (s1 : Int64) (H : Hp) : G 170 139 [some (.inr (.inr x0)), some (.inl x1), some (.inl x2), some (.inl x3), some (.inl x4), some (.inr (.inl x5)), none, some (.inr (.inl x7)), none, some (.inr (.inl x9)), none, none, o12] [.inr (.inl s0), .inr (.inl s1)] H = (some (some (.inr (.inl ((s1 + s0)))), H)) := by
  refine Eq.trans (e1 hG PT_170 k170_139 _ _ _) ?_
  show G 170 140 [some (.inr (.inr x0)), some (.inl x1), some (.inl x2), some (.inl x3), some (.inl x4), some (.inr (.inl x5)), none, some (.inr (.inl x7)), none, some (.inr (.inl x9)), none, none, o12] [.inr (.inl (s1 + s0))] H = _
  exact e1 hG PT_170 k170_140 _ _ _
-- StepsAheadModel.sure(I)I
theorem PT_171 : PT 171 = pt171 := rfl
theorem k171_0 : lkp pt171 0 = iP 1 (fAld 0) := rfl
theorem k171_1 : lkp pt171 1 = iP 2 (fIld 1) := rfl
theorem k171_2 : lkp pt171 2 = iCK 5 12 132 2 2 1 := rfl
theorem k171_5 : lkp pt171 5 = iB 8 11 (b1 (fun x => decide (x ≠ 0))) := rfl
theorem k171_8 : lkp pt171 8 = iP 10 (fK (.inl (-1000001))) := rfl
theorem k171_10 : lkp pt171 10 = iRet rI := rfl
theorem k171_11 : lkp pt171 11 = iP 12 (fAld 0) := rfl
theorem k171_12 : lkp pt171 12 = iP 13 (fIld 1) := rfl
theorem k171_13 : lkp pt171 13 = iP 14 (fK (.inl 0)) := rfl
theorem k171_14 : lkp pt171 14 = iCK 17 12 152 3 3 1 := rfl
theorem k171_17 : lkp pt171 17 = iP 18 (fIst 2) := rfl
theorem k171_18 : lkp pt171 18 = iP 19 (fIld 2) := rfl
theorem k171_19 : lkp pt171 19 = iB 22 31 (b1 (fun x => decide (x ≠ 0))) := rfl
theorem k171_22 : lkp pt171 22 = iP 23 (fAld 0) := rfl
theorem k171_23 : lkp pt171 23 = iP 24 (fIld 1) := rfl
theorem k171_24 : lkp pt171 24 = iP 25 (fK (.inl 1)) := rfl
theorem k171_25 : lkp pt171 25 = iCK 28 12 152 3 3 1 := rfl
theorem k171_28 : lkp pt171 28 = iP 32 fGo := rfl
theorem k171_31 : lkp pt171 31 = iP 32 (fIld 2) := rfl
theorem k171_32 : lkp pt171 32 = iP 33 (fIst 2) := rfl
theorem k171_33 : lkp pt171 33 = iP 34 (fIld 2) := rfl
theorem k171_34 : lkp pt171 34 = iB 37 41 (b1 (fun x => decide (x = 0))) := rfl
theorem k171_37 : lkp pt171 37 = iP 38 (fIld 2) := rfl
theorem k171_38 : lkp pt171 38 = iP 54 fGo := rfl
theorem k171_41 : lkp pt171 41 = iP 42 (fAld 0) := rfl
theorem k171_42 : lkp pt171 42 = iP 43 (fIld 1) := rfl
theorem k171_43 : lkp pt171 43 = iCK 46 12 172 4 2 1 := rfl
theorem k171_46 : lkp pt171 46 = iB 49 53 (b1 (fun x => decide (x = 0))) := rfl
theorem k171_49 : lkp pt171 49 = iP 50 (fK (.inl 1)) := rfl
theorem k171_50 : lkp pt171 50 = iP 54 fGo := rfl
theorem k171_53 : lkp pt171 53 = iP 54 (fK (.inl 0)) := rfl
theorem k171_54 : lkp pt171 54 = iRet rI := rfl
theorem b171_0 {G : AG} (hG : FIX G) (x0 : Nat) (x1 : Int32) (H : Hp) : G 171 0 [some (.inr (.inr x0)), some (.inl x1), none] [] H = (bif Nat.beq (H.1 x0).1 12 then (G 132 0 [some (.inr (.inr x0)), some (.inl x1)] [] H).bind fun u1 => (asI u1.1).bind fun i2 => bif decide ((i2 : Int32) ≠ 0) then bif Nat.beq (u1.2.1 x0).1 12 then (G 152 0 [some (.inr (.inr x0)), some (.inl x1), some (.inl 0)] [] u1.2).bind fun u3 => (asI u3.1).bind fun i4 => bif decide ((i4 : Int32) ≠ 0) then G 171 32 [some (.inr (.inr x0)), some (.inl x1), some (.inl i4)] [.inl i4] u3.2 else bif Nat.beq (u3.2.1 x0).1 12 then (G 152 0 [some (.inr (.inr x0)), some (.inl x1), some (.inl 1)] [] u3.2).bind fun u5 => (asI u5.1).bind fun i6 => G 171 32 [some (.inr (.inr x0)), some (.inl x1), some (.inl i4)] [.inl i6] u5.2 else none else none else some (some (.inl ((-1000001))), u1.2) else none) := by
  refine Eq.trans (e1 hG PT_171 k171_0 _ _ _) ?_
  show G 171 1 [some (.inr (.inr x0)), some (.inl x1), none] [.inr (.inr x0)] H = _
  refine Eq.trans (e1 hG PT_171 k171_1 _ _ _) ?_
  show G 171 2 [some (.inr (.inr x0)), some (.inl x1), none] [.inl x1, .inr (.inr x0)] H = _
  refine Eq.trans (e1 hG PT_171 k171_2 _ _ _) ?_
  refine bfc ?_ ?_
  · refine bdc fun u1 => ?_
    refine bdc fun i2 => ?_
    show G 171 5 [some (.inr (.inr x0)), some (.inl x1), none] [.inl i2] u1.2 = _
    refine Eq.trans (e1 hG PT_171 k171_5 _ _ _) ?_
    refine bfc ?_ ?_
    · show G 171 11 [some (.inr (.inr x0)), some (.inl x1), none] [] u1.2 = _
      refine Eq.trans (e1 hG PT_171 k171_11 _ _ _) ?_
      show G 171 12 [some (.inr (.inr x0)), some (.inl x1), none] [.inr (.inr x0)] u1.2 = _
      refine Eq.trans (e1 hG PT_171 k171_12 _ _ _) ?_
      show G 171 13 [some (.inr (.inr x0)), some (.inl x1), none] [.inl x1, .inr (.inr x0)] u1.2 = _
      refine Eq.trans (e1 hG PT_171 k171_13 _ _ _) ?_
      show G 171 14 [some (.inr (.inr x0)), some (.inl x1), none] [.inl 0, .inl x1, .inr (.inr x0)] u1.2 = _
      refine Eq.trans (e1 hG PT_171 k171_14 _ _ _) ?_
      refine bfc ?_ ?_
      · refine bdc fun u3 => ?_
        refine bdc fun i4 => ?_
        show G 171 17 [some (.inr (.inr x0)), some (.inl x1), none] [.inl i4] u3.2 = _
        refine Eq.trans (e1 hG PT_171 k171_17 _ _ _) ?_
        show G 171 18 [some (.inr (.inr x0)), some (.inl x1), some (.inl i4)] [] u3.2 = _
        refine Eq.trans (e1 hG PT_171 k171_18 _ _ _) ?_
        show G 171 19 [some (.inr (.inr x0)), some (.inl x1), some (.inl i4)] [.inl i4] u3.2 = _
        refine Eq.trans (e1 hG PT_171 k171_19 _ _ _) ?_
        refine bfc ?_ ?_
        · show G 171 31 [some (.inr (.inr x0)), some (.inl x1), some (.inl i4)] [] u3.2 = _
          refine Eq.trans (e1 hG PT_171 k171_31 _ _ _) ?_
          rfl
        · show G 171 22 [some (.inr (.inr x0)), some (.inl x1), some (.inl i4)] [] u3.2 = _
          refine Eq.trans (e1 hG PT_171 k171_22 _ _ _) ?_
          show G 171 23 [some (.inr (.inr x0)), some (.inl x1), some (.inl i4)] [.inr (.inr x0)] u3.2 = _
          refine Eq.trans (e1 hG PT_171 k171_23 _ _ _) ?_
          show G 171 24 [some (.inr (.inr x0)), some (.inl x1), some (.inl i4)] [.inl x1, .inr (.inr x0)] u3.2 = _
          refine Eq.trans (e1 hG PT_171 k171_24 _ _ _) ?_
          show G 171 25 [some (.inr (.inr x0)), some (.inl x1), some (.inl i4)] [.inl 1, .inl x1, .inr (.inr x0)] u3.2 = _
          refine Eq.trans (e1 hG PT_171 k171_25 _ _ _) ?_
          refine bfc ?_ ?_
          · refine bdc fun u5 => ?_
            refine bdc fun i6 => ?_
            show G 171 28 [some (.inr (.inr x0)), some (.inl x1), some (.inl i4)] [.inl i6] u5.2 = _
            refine Eq.trans (e1 hG PT_171 k171_28 _ _ _) ?_
            rfl
          · rfl
      · rfl
    · show G 171 8 [some (.inr (.inr x0)), some (.inl x1), none] [] u1.2 = _
      refine Eq.trans (e1 hG PT_171 k171_8 _ _ _) ?_
      show G 171 10 [some (.inr (.inr x0)), some (.inl x1), none] [.inl (-1000001)] u1.2 = _
      exact e1 hG PT_171 k171_10 _ _ _
  · rfl
theorem b171_32 {G : AG} (hG : FIX G) (x0 : Nat) (x1 : Int32) (x2 : Int32) (s0 : Int32) (H : Hp) : G 171 32 [some (.inr (.inr x0)), some (.inl x1), some (.inl x2)] [.inl s0] H = (bif decide ((s0 : Int32) = 0) then bif Nat.beq (H.1 x0).1 12 then (G 172 0 [some (.inr (.inr x0)), some (.inl x1), none, none] [] H).bind fun u1 => (asI u1.1).bind fun i2 => bif decide ((i2 : Int32) = 0) then G 171 54 [some (.inr (.inr x0)), some (.inl x1), some (.inl s0)] [.inl 0] u1.2 else G 171 54 [some (.inr (.inr x0)), some (.inl x1), some (.inl s0)] [.inl 1] u1.2 else none else G 171 54 [some (.inr (.inr x0)), some (.inl x1), some (.inl s0)] [.inl s0] H) := by
  refine Eq.trans (e1 hG PT_171 k171_32 _ _ _) ?_
  show G 171 33 [some (.inr (.inr x0)), some (.inl x1), some (.inl s0)] [] H = _
  refine Eq.trans (e1 hG PT_171 k171_33 _ _ _) ?_
  show G 171 34 [some (.inr (.inr x0)), some (.inl x1), some (.inl s0)] [.inl s0] H = _
  refine Eq.trans (e1 hG PT_171 k171_34 _ _ _) ?_
  refine bfc ?_ ?_
  · show G 171 41 [some (.inr (.inr x0)), some (.inl x1), some (.inl s0)] [] H = _
    refine Eq.trans (e1 hG PT_171 k171_41 _ _ _) ?_
    show G 171 42 [some (.inr (.inr x0)), some (.inl x1), some (.inl s0)] [.inr (.inr x0)] H = _
    refine Eq.trans (e1 hG PT_171 k171_42 _ _ _) ?_
    show G 171 43 [some (.inr (.inr x0)), some (.inl x1), some (.inl s0)] [.inl x1, .inr (.inr x0)] H = _
    refine Eq.trans (e1 hG PT_171 k171_43 _ _ _) ?_
    refine bfc ?_ ?_
    · refine bdc fun u1 => ?_
      refine bdc fun i2 => ?_
      show G 171 46 [some (.inr (.inr x0)), some (.inl x1), some (.inl s0)] [.inl i2] u1.2 = _
      refine Eq.trans (e1 hG PT_171 k171_46 _ _ _) ?_
      refine bfc ?_ ?_
      · show G 171 53 [some (.inr (.inr x0)), some (.inl x1), some (.inl s0)] [] u1.2 = _
        refine Eq.trans (e1 hG PT_171 k171_53 _ _ _) ?_
        rfl
      · show G 171 49 [some (.inr (.inr x0)), some (.inl x1), some (.inl s0)] [] u1.2 = _
        refine Eq.trans (e1 hG PT_171 k171_49 _ _ _) ?_
        show G 171 50 [some (.inr (.inr x0)), some (.inl x1), some (.inl s0)] [.inl 1] u1.2 = _
        refine Eq.trans (e1 hG PT_171 k171_50 _ _ _) ?_
        rfl
    · rfl
  · show G 171 37 [some (.inr (.inr x0)), some (.inl x1), some (.inl s0)] [] H = _
    refine Eq.trans (e1 hG PT_171 k171_37 _ _ _) ?_
    show G 171 38 [some (.inr (.inr x0)), some (.inl x1), some (.inl s0)] [.inl s0] H = _
    refine Eq.trans (e1 hG PT_171 k171_38 _ _ _) ?_
    rfl
theorem b171_54 {G : AG} (hG : FIX G) (x0 : Nat) (x1 : Int32) (x2 : Int32) (s0 : Int32) (H : Hp) : G 171 54 [some (.inr (.inr x0)), some (.inl x1), some (.inl x2)] [.inl s0] H = (some (some (.inl s0), H)) := by
  exact e1 hG PT_171 k171_54 _ _ _
-- StepsAheadModel.isSure(I)Z
theorem PT_172 : PT 172 = pt172 := rfl
theorem k172_0 : lkp pt172 0 = iP 1 (fK (.inl 1)) := rfl
theorem k172_1 : lkp pt172 1 = iP 2 (fIst 2) := rfl
theorem k172_2 : lkp pt172 2 = iP 3 (fK (.inl 0)) := rfl
theorem k172_3 : lkp pt172 3 = iP 4 (fIst 3) := rfl
theorem k172_4 : lkp pt172 4 = iP 5 (fIld 3) := rfl
theorem k172_5 : lkp pt172 5 = iP 8 (fK (.inl 252)) := rfl
theorem k172_8 : lkp pt172 8 = iB 11 59 (b2 (fun x y => decide (y ≤ x))) := rfl
theorem k172_11 : lkp pt172 11 = iP 12 (fIld 2) := rfl
theorem k172_12 : lkp pt172 12 = iB 15 51 (b1 (fun x => decide (x = 0))) := rfl
theorem k172_15 : lkp pt172 15 = iP 16 (fAld 0) := rfl
theorem k172_16 : lkp pt172 16 = iRR 19 (gtR 67) := rfl
theorem k172_19 : lkp pt172 19 = iP 22 (fK (.inl 504)) := rfl
theorem k172_22 : lkp pt172 22 = iP 23 (fIld 1) := rfl
theorem k172_23 : lkp pt172 23 = iP 24 (f2I (fun x y => x * y)) := rfl
theorem k172_24 : lkp pt172 24 = iP 25 (fIld 3) := rfl
theorem k172_25 : lkp pt172 25 = iP 26 (f2I (fun x y => x + y)) := rfl
theorem k172_26 : lkp pt172 26 = iRJ 27 qAJ := rfl
theorem k172_27 : lkp pt172 27 = iP 28 (fAld 0) := rfl
theorem k172_28 : lkp pt172 28 = iRR 31 (gtR 67) := rfl
theorem k172_31 : lkp pt172 31 = iP 34 (fK (.inl 252)) := rfl
theorem k172_34 : lkp pt172 34 = iP 35 (fK (.inl 2)) := rfl
theorem k172_35 : lkp pt172 35 = iP 36 (fIld 1) := rfl
theorem k172_36 : lkp pt172 36 = iP 37 (f2I (fun x y => x * y)) := rfl
theorem k172_37 : lkp pt172 37 = iP 38 (fK (.inl 1)) := rfl
theorem k172_38 : lkp pt172 38 = iP 39 (f2I (fun x y => x + y)) := rfl
theorem k172_39 : lkp pt172 39 = iP 40 (f2I (fun x y => x * y)) := rfl
theorem k172_40 : lkp pt172 40 = iP 41 (fIld 3) := rfl
theorem k172_41 : lkp pt172 41 = iP 42 (f2I (fun x y => x + y)) := rfl
theorem k172_42 : lkp pt172 42 = iRJ 43 qAJ := rfl
theorem k172_43 : lkp pt172 43 = iP 44 fLcmp := rfl
theorem k172_44 : lkp pt172 44 = iB 47 51 (b1 (fun x => decide (x ≠ 0))) := rfl
theorem k172_47 : lkp pt172 47 = iP 48 (fK (.inl 1)) := rfl
theorem k172_48 : lkp pt172 48 = iP 52 fGo := rfl
theorem k172_51 : lkp pt172 51 = iP 52 (fK (.inl 0)) := rfl
theorem k172_52 : lkp pt172 52 = iP 53 (fIst 2) := rfl
theorem k172_53 : lkp pt172 53 = iP 56 (fInc 3 1) := rfl
theorem k172_56 : lkp pt172 56 = iP 4 fGo := rfl
theorem k172_59 : lkp pt172 59 = iP 60 (fIld 2) := rfl
theorem k172_60 : lkp pt172 60 = iRet rZ := rfl
theorem b172_0 {G : AG} (hG : FIX G) (x0 : Nat) (x1 : Int32) (H : Hp) : G 172 0 [some (.inr (.inr x0)), some (.inl x1), none, none] [] H = (G 172 4 [some (.inr (.inr x0)), some (.inl x1), some (.inl 1), some (.inl 0)] [] H) := by
  refine Eq.trans (e1 hG PT_172 k172_0 _ _ _) ?_
  show G 172 1 [some (.inr (.inr x0)), some (.inl x1), none, none] [.inl 1] H = _
  refine Eq.trans (e1 hG PT_172 k172_1 _ _ _) ?_
  show G 172 2 [some (.inr (.inr x0)), some (.inl x1), some (.inl 1), none] [] H = _
  refine Eq.trans (e1 hG PT_172 k172_2 _ _ _) ?_
  show G 172 3 [some (.inr (.inr x0)), some (.inl x1), some (.inl 1), none] [.inl 0] H = _
  refine Eq.trans (e1 hG PT_172 k172_3 _ _ _) ?_
  rfl
theorem b172_4 {G : AG} (hG : FIX G) (x0 : Nat) (x1 : Int32) (x2 : Int32) (x3 : Int32) (H : Hp) : G 172 4 [some (.inr (.inr x0)), some (.inl x1), some (.inl x2), some (.inl x3)] [] H = (bif decide ((252 : Int32) ≤ (x3 : Int32)) then retZ x2 H else bif decide ((x2 : Int32) = 0) then G 172 51 [some (.inr (.inr x0)), some (.inl x1), some (.inl x2), some (.inl x3)] [] H else (hgR H x0 67).bind fun r1 => (hAJ H r1 (((504 * x1) + x3))).bind fun j2 => (hgR H x0 67).bind fun r3 => (hAJ H r3 (((252 * ((2 * x1) + 1)) + x3))).bind fun j4 => bif decide (((lg_cmp j2 j4) : Int32) ≠ 0) then G 172 51 [some (.inr (.inr x0)), some (.inl x1), some (.inl x2), some (.inl x3)] [] H else G 172 52 [some (.inr (.inr x0)), some (.inl x1), some (.inl x2), some (.inl x3)] [.inl 1] H) := by
  refine Eq.trans (e1 hG PT_172 k172_4 _ _ _) ?_
  show G 172 5 [some (.inr (.inr x0)), some (.inl x1), some (.inl x2), some (.inl x3)] [.inl x3] H = _
  refine Eq.trans (e1 hG PT_172 k172_5 _ _ _) ?_
  show G 172 8 [some (.inr (.inr x0)), some (.inl x1), some (.inl x2), some (.inl x3)] [.inl 252, .inl x3] H = _
  refine Eq.trans (e1 hG PT_172 k172_8 _ _ _) ?_
  refine bfc ?_ ?_
  · show G 172 59 [some (.inr (.inr x0)), some (.inl x1), some (.inl x2), some (.inl x3)] [] H = _
    refine Eq.trans (e1 hG PT_172 k172_59 _ _ _) ?_
    show G 172 60 [some (.inr (.inr x0)), some (.inl x1), some (.inl x2), some (.inl x3)] [.inl x2] H = _
    exact e1 hG PT_172 k172_60 _ _ _
  · show G 172 11 [some (.inr (.inr x0)), some (.inl x1), some (.inl x2), some (.inl x3)] [] H = _
    refine Eq.trans (e1 hG PT_172 k172_11 _ _ _) ?_
    show G 172 12 [some (.inr (.inr x0)), some (.inl x1), some (.inl x2), some (.inl x3)] [.inl x2] H = _
    refine Eq.trans (e1 hG PT_172 k172_12 _ _ _) ?_
    refine bfc ?_ ?_
    · rfl
    · show G 172 15 [some (.inr (.inr x0)), some (.inl x1), some (.inl x2), some (.inl x3)] [] H = _
      refine Eq.trans (e1 hG PT_172 k172_15 _ _ _) ?_
      show G 172 16 [some (.inr (.inr x0)), some (.inl x1), some (.inl x2), some (.inl x3)] [.inr (.inr x0)] H = _
      refine Eq.trans (e1 hG PT_172 k172_16 _ _ _) ?_
      refine bdc fun r1 => ?_
      show G 172 19 [some (.inr (.inr x0)), some (.inl x1), some (.inl x2), some (.inl x3)] [.inr (.inr r1)] H = _
      refine Eq.trans (e1 hG PT_172 k172_19 _ _ _) ?_
      show G 172 22 [some (.inr (.inr x0)), some (.inl x1), some (.inl x2), some (.inl x3)] [.inl 504, .inr (.inr r1)] H = _
      refine Eq.trans (e1 hG PT_172 k172_22 _ _ _) ?_
      show G 172 23 [some (.inr (.inr x0)), some (.inl x1), some (.inl x2), some (.inl x3)] [.inl x1, .inl 504, .inr (.inr r1)] H = _
      refine Eq.trans (e1 hG PT_172 k172_23 _ _ _) ?_
      show G 172 24 [some (.inr (.inr x0)), some (.inl x1), some (.inl x2), some (.inl x3)] [.inl (504 * x1), .inr (.inr r1)] H = _
      refine Eq.trans (e1 hG PT_172 k172_24 _ _ _) ?_
      show G 172 25 [some (.inr (.inr x0)), some (.inl x1), some (.inl x2), some (.inl x3)] [.inl x3, .inl (504 * x1), .inr (.inr r1)] H = _
      refine Eq.trans (e1 hG PT_172 k172_25 _ _ _) ?_
      show G 172 26 [some (.inr (.inr x0)), some (.inl x1), some (.inl x2), some (.inl x3)] [.inl ((504 * x1) + x3), .inr (.inr r1)] H = _
      refine Eq.trans (e1 hG PT_172 k172_26 _ _ _) ?_
      refine bdc fun j2 => ?_
      show G 172 27 [some (.inr (.inr x0)), some (.inl x1), some (.inl x2), some (.inl x3)] [.inr (.inl j2)] H = _
      refine Eq.trans (e1 hG PT_172 k172_27 _ _ _) ?_
      show G 172 28 [some (.inr (.inr x0)), some (.inl x1), some (.inl x2), some (.inl x3)] [.inr (.inr x0), .inr (.inl j2)] H = _
      refine Eq.trans (e1 hG PT_172 k172_28 _ _ _) ?_
      refine bdc fun r3 => ?_
      show G 172 31 [some (.inr (.inr x0)), some (.inl x1), some (.inl x2), some (.inl x3)] [.inr (.inr r3), .inr (.inl j2)] H = _
      refine Eq.trans (e1 hG PT_172 k172_31 _ _ _) ?_
      show G 172 34 [some (.inr (.inr x0)), some (.inl x1), some (.inl x2), some (.inl x3)] [.inl 252, .inr (.inr r3), .inr (.inl j2)] H = _
      refine Eq.trans (e1 hG PT_172 k172_34 _ _ _) ?_
      show G 172 35 [some (.inr (.inr x0)), some (.inl x1), some (.inl x2), some (.inl x3)] [.inl 2, .inl 252, .inr (.inr r3), .inr (.inl j2)] H = _
      refine Eq.trans (e1 hG PT_172 k172_35 _ _ _) ?_
      show G 172 36 [some (.inr (.inr x0)), some (.inl x1), some (.inl x2), some (.inl x3)] [.inl x1, .inl 2, .inl 252, .inr (.inr r3), .inr (.inl j2)] H = _
      refine Eq.trans (e1 hG PT_172 k172_36 _ _ _) ?_
      show G 172 37 [some (.inr (.inr x0)), some (.inl x1), some (.inl x2), some (.inl x3)] [.inl (2 * x1), .inl 252, .inr (.inr r3), .inr (.inl j2)] H = _
      refine Eq.trans (e1 hG PT_172 k172_37 _ _ _) ?_
      show G 172 38 [some (.inr (.inr x0)), some (.inl x1), some (.inl x2), some (.inl x3)] [.inl 1, .inl (2 * x1), .inl 252, .inr (.inr r3), .inr (.inl j2)] H = _
      refine Eq.trans (e1 hG PT_172 k172_38 _ _ _) ?_
      show G 172 39 [some (.inr (.inr x0)), some (.inl x1), some (.inl x2), some (.inl x3)] [.inl ((2 * x1) + 1), .inl 252, .inr (.inr r3), .inr (.inl j2)] H = _
      refine Eq.trans (e1 hG PT_172 k172_39 _ _ _) ?_
      show G 172 40 [some (.inr (.inr x0)), some (.inl x1), some (.inl x2), some (.inl x3)] [.inl (252 * ((2 * x1) + 1)), .inr (.inr r3), .inr (.inl j2)] H = _
      refine Eq.trans (e1 hG PT_172 k172_40 _ _ _) ?_
      show G 172 41 [some (.inr (.inr x0)), some (.inl x1), some (.inl x2), some (.inl x3)] [.inl x3, .inl (252 * ((2 * x1) + 1)), .inr (.inr r3), .inr (.inl j2)] H = _
      refine Eq.trans (e1 hG PT_172 k172_41 _ _ _) ?_
      show G 172 42 [some (.inr (.inr x0)), some (.inl x1), some (.inl x2), some (.inl x3)] [.inl ((252 * ((2 * x1) + 1)) + x3), .inr (.inr r3), .inr (.inl j2)] H = _
      refine Eq.trans (e1 hG PT_172 k172_42 _ _ _) ?_
      refine bdc fun j4 => ?_
      show G 172 43 [some (.inr (.inr x0)), some (.inl x1), some (.inl x2), some (.inl x3)] [.inr (.inl j4), .inr (.inl j2)] H = _
      refine Eq.trans (e1 hG PT_172 k172_43 _ _ _) ?_
      show G 172 44 [some (.inr (.inr x0)), some (.inl x1), some (.inl x2), some (.inl x3)] [.inl (lg_cmp j2 j4)] H = _
      refine Eq.trans (e1 hG PT_172 k172_44 _ _ _) ?_
      refine bfc ?_ ?_
      · rfl
      · show G 172 47 [some (.inr (.inr x0)), some (.inl x1), some (.inl x2), some (.inl x3)] [] H = _
        refine Eq.trans (e1 hG PT_172 k172_47 _ _ _) ?_
        show G 172 48 [some (.inr (.inr x0)), some (.inl x1), some (.inl x2), some (.inl x3)] [.inl 1] H = _
        refine Eq.trans (e1 hG PT_172 k172_48 _ _ _) ?_
        rfl
theorem b172_51 {G : AG} (hG : FIX G) (x0 : Nat) (x1 : Int32) (x2 : Int32) (x3 : Int32) (H : Hp) : G 172 51 [some (.inr (.inr x0)), some (.inl x1), some (.inl x2), some (.inl x3)] [] H = (G 172 52 [some (.inr (.inr x0)), some (.inl x1), some (.inl x2), some (.inl x3)] [.inl 0] H) := by
  refine Eq.trans (e1 hG PT_172 k172_51 _ _ _) ?_
  rfl
theorem b172_52 {G : AG} (hG : FIX G) (x0 : Nat) (x1 : Int32) (x2 : Int32) (x3 : Int32) (s0 : Int32) (H : Hp) : G 172 52 [some (.inr (.inr x0)), some (.inl x1), some (.inl x2), some (.inl x3)] [.inl s0] H = (G 172 4 [some (.inr (.inr x0)), some (.inl x1), some (.inl s0), some (.inl (x3 + 1))] [] H) := by
  refine Eq.trans (e1 hG PT_172 k172_52 _ _ _) ?_
  show G 172 53 [some (.inr (.inr x0)), some (.inl x1), some (.inl s0), some (.inl x3)] [] H = _
  refine Eq.trans (e1 hG PT_172 k172_53 _ _ _) ?_
  show G 172 56 [some (.inr (.inr x0)), some (.inl x1), some (.inl s0), some (.inl (x3 + 1))] [] H = _
  refine Eq.trans (e1 hG PT_172 k172_56 _ _ _) ?_
  rfl
-- StepsAheadModel.worth(IIII)I
theorem PT_173 : PT 173 = pt173 := rfl
theorem k173_0 : lkp pt173 0 = iP 1 (fAld 0) := rfl
theorem k173_1 : lkp pt173 1 = iP 2 (fIld 1) := rfl
theorem k173_2 : lkp pt173 2 = iCK 5 12 132 2 2 1 := rfl
theorem k173_5 : lkp pt173 5 = iB 8 29 (b1 (fun x => decide (x = 0))) := rfl
theorem k173_8 : lkp pt173 8 = iP 9 (fIld 2) := rfl
theorem k173_9 : lkp pt173 9 = iP 10 (fIld 3) := rfl
theorem k173_10 : lkp pt173 10 = iC 13 169 2 2 1 := rfl
theorem k173_13 : lkp pt173 13 = iB 16 29 (b1 (fun x => decide (x = 0))) := rfl
theorem k173_16 : lkp pt173 16 = iP 18 (fIld 4) := rfl
theorem k173_18 : lkp pt173 18 = iP 19 fI2l := rfl
theorem k173_19 : lkp pt173 19 = iP 20 (fK (.inr (.inl 0))) := rfl
theorem k173_20 : lkp pt173 20 = iP 23 (fK (.inr (.inl 4))) := rfl
theorem k173_23 : lkp pt173 23 = iC 26 130 6 3 1 := rfl
theorem k173_26 : lkp pt173 26 = iB 29 32 (b1 (fun x => decide (x ≠ 0))) := rfl
theorem k173_29 : lkp pt173 29 = iP 31 (fK (.inl (-1000001))) := rfl
theorem k173_31 : lkp pt173 31 = iRet rI := rfl
theorem k173_32 : lkp pt173 32 = iP 33 (fAld 0) := rfl
theorem k173_33 : lkp pt173 33 = iCK 36 12 153 3 1 0 := rfl
theorem k173_36 : lkp pt173 36 = iP 37 (fAld 0) := rfl
theorem k173_37 : lkp pt173 37 = iRR 40 (gtR 68) := rfl
theorem k173_40 : lkp pt173 40 = iP 41 (fIld 1) := rfl
theorem k173_41 : lkp pt173 41 = iRI 42 qAZ := rfl
theorem k173_42 : lkp pt173 42 = iB 45 57 (b1 (fun x => decide (x = 0))) := rfl
theorem k173_45 : lkp pt173 45 = iP 46 (fAld 0) := rfl
theorem k173_46 : lkp pt173 46 = iP 47 (fIld 1) := rfl
theorem k173_47 : lkp pt173 47 = iP 48 (fIld 2) := rfl
theorem k173_48 : lkp pt173 48 = iP 49 (fIld 3) := rfl
theorem k173_49 : lkp pt173 49 = iP 51 (fIld 4) := rfl
theorem k173_51 : lkp pt173 51 = iCK 54 12 174 10 5 1 := rfl
theorem k173_54 : lkp pt173 54 = iP 59 fGo := rfl
theorem k173_57 : lkp pt173 57 = iP 59 (fK (.inl (-1000002))) := rfl
theorem k173_59 : lkp pt173 59 = iRet rI := rfl
theorem b173_0 {G : AG} (hG : FIX G) (x0 : Nat) (x1 : Int32) (x2 : Int32) (x3 : Int32) (x4 : Int32) (H : Hp) : G 173 0 [some (.inr (.inr x0)), some (.inl x1), some (.inl x2), some (.inl x3), some (.inl x4)] [] H = (bif Nat.beq (H.1 x0).1 12 then (G 132 0 [some (.inr (.inr x0)), some (.inl x1)] [] H).bind fun u1 => (asI u1.1).bind fun i2 => bif decide ((i2 : Int32) = 0) then G 173 29 [some (.inr (.inr x0)), some (.inl x1), some (.inl x2), some (.inl x3), some (.inl x4)] [] u1.2 else (G 169 0 [some (.inl x2), some (.inl x3)] [] u1.2).bind fun u3 => (asI u3.1).bind fun i4 => bif decide ((i4 : Int32) = 0) then G 173 29 [some (.inr (.inr x0)), some (.inl x1), some (.inl x2), some (.inl x3), some (.inl x4)] [] u3.2 else (G 130 0 [some (.inr (.inl x4.toInt64)), none, some (.inr (.inl 0)), none, some (.inr (.inl 4)), none] [] u3.2).bind fun u5 => (asI u5.1).bind fun i6 => bif decide ((i6 : Int32) ≠ 0) then bif Nat.beq (u5.2.1 x0).1 12 then (G 153 0 [some (.inr (.inr x0)), none, none] [] u5.2).bind fun u7 => (asV u7.1).bind fun _ => (hgR u7.2 x0 68).bind fun r8 => (hAZ u7.2 r8 x1).bind fun i9 => bif decide ((i9 : Int32) = 0) then G 173 59 [some (.inr (.inr x0)), some (.inl x1), some (.inl x2), some (.inl x3), some (.inl x4)] [.inl (-1000002)] u7.2 else bif Nat.beq (u7.2.1 x0).1 12 then (G 174 0 [some (.inr (.inr x0)), some (.inl x1), some (.inl x2), some (.inl x3), some (.inl x4), none, none, none, none, none] [] u7.2).bind fun u10 => (asI u10.1).bind fun i11 => G 173 59 [some (.inr (.inr x0)), some (.inl x1), some (.inl x2), some (.inl x3), some (.inl x4)] [.inl i11] u10.2 else none else none else G 173 29 [some (.inr (.inr x0)), some (.inl x1), some (.inl x2), some (.inl x3), some (.inl x4)] [] u5.2 else none) := by
  refine Eq.trans (e1 hG PT_173 k173_0 _ _ _) ?_
  show G 173 1 [some (.inr (.inr x0)), some (.inl x1), some (.inl x2), some (.inl x3), some (.inl x4)] [.inr (.inr x0)] H = _
  refine Eq.trans (e1 hG PT_173 k173_1 _ _ _) ?_
  show G 173 2 [some (.inr (.inr x0)), some (.inl x1), some (.inl x2), some (.inl x3), some (.inl x4)] [.inl x1, .inr (.inr x0)] H = _
  refine Eq.trans (e1 hG PT_173 k173_2 _ _ _) ?_
  refine bfc ?_ ?_
  · refine bdc fun u1 => ?_
    refine bdc fun i2 => ?_
    show G 173 5 [some (.inr (.inr x0)), some (.inl x1), some (.inl x2), some (.inl x3), some (.inl x4)] [.inl i2] u1.2 = _
    refine Eq.trans (e1 hG PT_173 k173_5 _ _ _) ?_
    refine bfc ?_ ?_
    · rfl
    · show G 173 8 [some (.inr (.inr x0)), some (.inl x1), some (.inl x2), some (.inl x3), some (.inl x4)] [] u1.2 = _
      refine Eq.trans (e1 hG PT_173 k173_8 _ _ _) ?_
      show G 173 9 [some (.inr (.inr x0)), some (.inl x1), some (.inl x2), some (.inl x3), some (.inl x4)] [.inl x2] u1.2 = _
      refine Eq.trans (e1 hG PT_173 k173_9 _ _ _) ?_
      show G 173 10 [some (.inr (.inr x0)), some (.inl x1), some (.inl x2), some (.inl x3), some (.inl x4)] [.inl x3, .inl x2] u1.2 = _
      refine Eq.trans (e1 hG PT_173 k173_10 _ _ _) ?_
      refine bdc fun u3 => ?_
      refine bdc fun i4 => ?_
      show G 173 13 [some (.inr (.inr x0)), some (.inl x1), some (.inl x2), some (.inl x3), some (.inl x4)] [.inl i4] u3.2 = _
      refine Eq.trans (e1 hG PT_173 k173_13 _ _ _) ?_
      refine bfc ?_ ?_
      · rfl
      · show G 173 16 [some (.inr (.inr x0)), some (.inl x1), some (.inl x2), some (.inl x3), some (.inl x4)] [] u3.2 = _
        refine Eq.trans (e1 hG PT_173 k173_16 _ _ _) ?_
        show G 173 18 [some (.inr (.inr x0)), some (.inl x1), some (.inl x2), some (.inl x3), some (.inl x4)] [.inl x4] u3.2 = _
        refine Eq.trans (e1 hG PT_173 k173_18 _ _ _) ?_
        show G 173 19 [some (.inr (.inr x0)), some (.inl x1), some (.inl x2), some (.inl x3), some (.inl x4)] [.inr (.inl x4.toInt64)] u3.2 = _
        refine Eq.trans (e1 hG PT_173 k173_19 _ _ _) ?_
        show G 173 20 [some (.inr (.inr x0)), some (.inl x1), some (.inl x2), some (.inl x3), some (.inl x4)] [.inr (.inl 0), .inr (.inl x4.toInt64)] u3.2 = _
        refine Eq.trans (e1 hG PT_173 k173_20 _ _ _) ?_
        show G 173 23 [some (.inr (.inr x0)), some (.inl x1), some (.inl x2), some (.inl x3), some (.inl x4)] [.inr (.inl 4), .inr (.inl 0), .inr (.inl x4.toInt64)] u3.2 = _
        refine Eq.trans (e1 hG PT_173 k173_23 _ _ _) ?_
        refine bdc fun u5 => ?_
        refine bdc fun i6 => ?_
        show G 173 26 [some (.inr (.inr x0)), some (.inl x1), some (.inl x2), some (.inl x3), some (.inl x4)] [.inl i6] u5.2 = _
        refine Eq.trans (e1 hG PT_173 k173_26 _ _ _) ?_
        refine bfc ?_ ?_
        · show G 173 32 [some (.inr (.inr x0)), some (.inl x1), some (.inl x2), some (.inl x3), some (.inl x4)] [] u5.2 = _
          refine Eq.trans (e1 hG PT_173 k173_32 _ _ _) ?_
          show G 173 33 [some (.inr (.inr x0)), some (.inl x1), some (.inl x2), some (.inl x3), some (.inl x4)] [.inr (.inr x0)] u5.2 = _
          refine Eq.trans (e1 hG PT_173 k173_33 _ _ _) ?_
          refine bfc ?_ ?_
          · refine bdc fun u7 => ?_
            refine bdc fun _ => ?_
            show G 173 36 [some (.inr (.inr x0)), some (.inl x1), some (.inl x2), some (.inl x3), some (.inl x4)] [] u7.2 = _
            refine Eq.trans (e1 hG PT_173 k173_36 _ _ _) ?_
            show G 173 37 [some (.inr (.inr x0)), some (.inl x1), some (.inl x2), some (.inl x3), some (.inl x4)] [.inr (.inr x0)] u7.2 = _
            refine Eq.trans (e1 hG PT_173 k173_37 _ _ _) ?_
            refine bdc fun r8 => ?_
            show G 173 40 [some (.inr (.inr x0)), some (.inl x1), some (.inl x2), some (.inl x3), some (.inl x4)] [.inr (.inr r8)] u7.2 = _
            refine Eq.trans (e1 hG PT_173 k173_40 _ _ _) ?_
            show G 173 41 [some (.inr (.inr x0)), some (.inl x1), some (.inl x2), some (.inl x3), some (.inl x4)] [.inl x1, .inr (.inr r8)] u7.2 = _
            refine Eq.trans (e1 hG PT_173 k173_41 _ _ _) ?_
            refine bdc fun i9 => ?_
            show G 173 42 [some (.inr (.inr x0)), some (.inl x1), some (.inl x2), some (.inl x3), some (.inl x4)] [.inl i9] u7.2 = _
            refine Eq.trans (e1 hG PT_173 k173_42 _ _ _) ?_
            refine bfc ?_ ?_
            · show G 173 57 [some (.inr (.inr x0)), some (.inl x1), some (.inl x2), some (.inl x3), some (.inl x4)] [] u7.2 = _
              refine Eq.trans (e1 hG PT_173 k173_57 _ _ _) ?_
              rfl
            · show G 173 45 [some (.inr (.inr x0)), some (.inl x1), some (.inl x2), some (.inl x3), some (.inl x4)] [] u7.2 = _
              refine Eq.trans (e1 hG PT_173 k173_45 _ _ _) ?_
              show G 173 46 [some (.inr (.inr x0)), some (.inl x1), some (.inl x2), some (.inl x3), some (.inl x4)] [.inr (.inr x0)] u7.2 = _
              refine Eq.trans (e1 hG PT_173 k173_46 _ _ _) ?_
              show G 173 47 [some (.inr (.inr x0)), some (.inl x1), some (.inl x2), some (.inl x3), some (.inl x4)] [.inl x1, .inr (.inr x0)] u7.2 = _
              refine Eq.trans (e1 hG PT_173 k173_47 _ _ _) ?_
              show G 173 48 [some (.inr (.inr x0)), some (.inl x1), some (.inl x2), some (.inl x3), some (.inl x4)] [.inl x2, .inl x1, .inr (.inr x0)] u7.2 = _
              refine Eq.trans (e1 hG PT_173 k173_48 _ _ _) ?_
              show G 173 49 [some (.inr (.inr x0)), some (.inl x1), some (.inl x2), some (.inl x3), some (.inl x4)] [.inl x3, .inl x2, .inl x1, .inr (.inr x0)] u7.2 = _
              refine Eq.trans (e1 hG PT_173 k173_49 _ _ _) ?_
              show G 173 51 [some (.inr (.inr x0)), some (.inl x1), some (.inl x2), some (.inl x3), some (.inl x4)] [.inl x4, .inl x3, .inl x2, .inl x1, .inr (.inr x0)] u7.2 = _
              refine Eq.trans (e1 hG PT_173 k173_51 _ _ _) ?_
              refine bfc ?_ ?_
              · refine bdc fun u10 => ?_
                refine bdc fun i11 => ?_
                show G 173 54 [some (.inr (.inr x0)), some (.inl x1), some (.inl x2), some (.inl x3), some (.inl x4)] [.inl i11] u10.2 = _
                refine Eq.trans (e1 hG PT_173 k173_54 _ _ _) ?_
                rfl
              · rfl
          · rfl
        · rfl
  · rfl
theorem b173_29 {G : AG} (hG : FIX G) (x0 : Nat) (x1 : Int32) (x2 : Int32) (x3 : Int32) (x4 : Int32) (H : Hp) : G 173 29 [some (.inr (.inr x0)), some (.inl x1), some (.inl x2), some (.inl x3), some (.inl x4)] [] H = (some (some (.inl ((-1000001))), H)) := by
  refine Eq.trans (e1 hG PT_173 k173_29 _ _ _) ?_
  show G 173 31 [some (.inr (.inr x0)), some (.inl x1), some (.inl x2), some (.inl x3), some (.inl x4)] [.inl (-1000001)] H = _
  exact e1 hG PT_173 k173_31 _ _ _
theorem b173_59 {G : AG} (hG : FIX G) (x0 : Nat) (x1 : Int32) (x2 : Int32) (x3 : Int32) (x4 : Int32) (s0 : Int32) (H : Hp) : G 173 59 [some (.inr (.inr x0)), some (.inl x1), some (.inl x2), some (.inl x3), some (.inl x4)] [.inl s0] H = (some (some (.inl s0), H)) := by
  exact e1 hG PT_173 k173_59 _ _ _
-- StepsAheadModel.go(IIII)I
theorem PT_174 : PT 174 = pt174 := rfl
theorem k174_0 : lkp pt174 0 = iP 1 (fAld 0) := rfl
theorem k174_1 : lkp pt174 1 = iP 2 (fK (.inl 0)) := rfl
theorem k174_2 : lkp pt174 2 = iW 5 (ptI 76) := rfl
theorem k174_5 : lkp pt174 5 = iP 6 (fAld 0) := rfl
theorem k174_6 : lkp pt174 6 = iP 7 (fK (.inr (.inl 0))) := rfl
theorem k174_7 : lkp pt174 7 = iW 10 (ptJ 77) := rfl
theorem k174_10 : lkp pt174 10 = iP 11 (fAld 0) := rfl
theorem k174_11 : lkp pt174 11 = iP 13 (fK (.inl 24)) := rfl
theorem k174_13 : lkp pt174 13 = iP 14 (fIld 1) := rfl
theorem k174_14 : lkp pt174 14 = iP 15 (f2I (fun x y => x * y)) := rfl
theorem k174_15 : lkp pt174 15 = iW 18 (ptI 78) := rfl
theorem k174_18 : lkp pt174 18 = iP 19 (fIld 1) := rfl
theorem k174_19 : lkp pt174 19 = iP 21 (fIst 5) := rfl
theorem k174_21 : lkp pt174 21 = iP 22 (fAld 0) := rfl
theorem k174_22 : lkp pt174 22 = iP 23 (fIld 2) := rfl
theorem k174_23 : lkp pt174 23 = iW 26 (ptI 79) := rfl
theorem k174_26 : lkp pt174 26 = iP 27 (fAld 0) := rfl
theorem k174_27 : lkp pt174 27 = iP 28 (fIld 3) := rfl
theorem k174_28 : lkp pt174 28 = iW 31 (ptI 80) := rfl
theorem k174_31 : lkp pt174 31 = iP 32 (fAld 0) := rfl
theorem k174_32 : lkp pt174 32 = iP 33 (fK (.inl 0)) := rfl
theorem k174_33 : lkp pt174 33 = iW 36 (ptI 81) := rfl
theorem k174_36 : lkp pt174 36 = iP 37 (fAld 0) := rfl
theorem k174_37 : lkp pt174 37 = iP 38 (fK (.inl 0)) := rfl
theorem k174_38 : lkp pt174 38 = iW 41 (ptI 83) := rfl
theorem k174_41 : lkp pt174 41 = iP 42 (fAld 0) := rfl
theorem k174_42 : lkp pt174 42 = iRI 45 (gtI 78) := rfl
theorem k174_45 : lkp pt174 45 = iP 47 (fK (.inl 24)) := rfl
theorem k174_47 : lkp pt174 47 = iP 49 (fIld 5) := rfl
theorem k174_49 : lkp pt174 49 = iP 50 (f2I (fun x y => x * y)) := rfl
theorem k174_50 : lkp pt174 50 = iP 51 (fAld 0) := rfl
theorem k174_51 : lkp pt174 51 = iRR 54 (gtR 51) := rfl
theorem k174_54 : lkp pt174 54 = iP 56 (fIld 5) := rfl
theorem k174_56 : lkp pt174 56 = iRI 57 qAI := rfl
theorem k174_57 : lkp pt174 57 = iP 58 (f2I (fun x y => x + y)) := rfl
theorem k174_58 : lkp pt174 58 = iB 61 68 (b2 (fun x y => decide (x < y))) := rfl
theorem k174_61 : lkp pt174 61 = iP 62 (fAld 0) := rfl
theorem k174_62 : lkp pt174 62 = iRI 65 (gtI 83) := rfl
theorem k174_65 : lkp pt174 65 = iB 68 1059 (b1 (fun x => decide (x ≤ 0))) := rfl
theorem k174_68 : lkp pt174 68 = iP 69 (fAld 0) := rfl
theorem k174_69 : lkp pt174 69 = iRI 72 (gtI 78) := rfl
theorem k174_72 : lkp pt174 72 = iP 74 (fK (.inl 24)) := rfl
theorem k174_74 : lkp pt174 74 = iP 76 (fIld 5) := rfl
theorem k174_76 : lkp pt174 76 = iP 77 (f2I (fun x y => x * y)) := rfl
theorem k174_77 : lkp pt174 77 = iP 78 (fAld 0) := rfl
theorem k174_78 : lkp pt174 78 = iRR 81 (gtR 51) := rfl
theorem k174_81 : lkp pt174 81 = iP 83 (fIld 5) := rfl
theorem k174_83 : lkp pt174 83 = iRI 84 qAI := rfl
theorem k174_84 : lkp pt174 84 = iP 85 (f2I (fun x y => x + y)) := rfl
theorem k174_85 : lkp pt174 85 = iB 88 221 (b2 (fun x y => decide (x ≠ y))) := rfl
theorem k174_88 : lkp pt174 88 = iP 89 (fAld 0) := rfl
theorem k174_89 : lkp pt174 89 = iP 90 fDup := rfl
theorem k174_90 : lkp pt174 90 = iRI 93 (gtI 83) := rfl
theorem k174_93 : lkp pt174 93 = iP 94 (fK (.inl 1)) := rfl
theorem k174_94 : lkp pt174 94 = iP 95 (f2I (fun x y => x - y)) := rfl
theorem k174_95 : lkp pt174 95 = iW 98 (ptI 83) := rfl
theorem k174_98 : lkp pt174 98 = iP 99 (fAld 0) := rfl
theorem k174_99 : lkp pt174 99 = iP 100 (fAld 0) := rfl
theorem k174_100 : lkp pt174 100 = iRR 103 (gtR 84) := rfl
theorem k174_103 : lkp pt174 103 = iP 104 (fAld 0) := rfl
theorem k174_104 : lkp pt174 104 = iRI 107 (gtI 83) := rfl
theorem k174_107 : lkp pt174 107 = iRI 108 qAI := rfl
theorem k174_108 : lkp pt174 108 = iP 109 (fK (.inl 1)) := rfl
theorem k174_109 : lkp pt174 109 = iP 110 (f2I (fun x y => x + y)) := rfl
theorem k174_110 : lkp pt174 110 = iW 113 (ptI 78) := rfl
theorem k174_113 : lkp pt174 113 = iP 114 (fAld 0) := rfl
theorem k174_114 : lkp pt174 114 = iRR 117 (gtR 84) := rfl
theorem k174_117 : lkp pt174 117 = iP 118 (fAld 0) := rfl
theorem k174_118 : lkp pt174 118 = iRI 121 (gtI 83) := rfl
theorem k174_121 : lkp pt174 121 = iRI 122 qAI := rfl
theorem k174_122 : lkp pt174 122 = iP 124 (fK (.inl 24)) := rfl
theorem k174_124 : lkp pt174 124 = iRI 125 (q2I (fun x y => x / y)) := rfl
theorem k174_125 : lkp pt174 125 = iP 127 (fIst 5) := rfl
theorem k174_127 : lkp pt174 127 = iP 128 (fAld 0) := rfl
theorem k174_128 : lkp pt174 128 = iP 129 (fAld 0) := rfl
theorem k174_129 : lkp pt174 129 = iRR 132 (gtR 89) := rfl
theorem k174_132 : lkp pt174 132 = iP 134 (fK (.inl 7)) := rfl
theorem k174_134 : lkp pt174 134 = iP 135 (fAld 0) := rfl
theorem k174_135 : lkp pt174 135 = iRI 138 (gtI 83) := rfl
theorem k174_138 : lkp pt174 138 = iP 139 (f2I (fun x y => x * y)) := rfl
theorem k174_139 : lkp pt174 139 = iRI 140 qAI := rfl
theorem k174_140 : lkp pt174 140 = iW 143 (ptI 79) := rfl
theorem k174_143 : lkp pt174 143 = iP 144 (fAld 0) := rfl
theorem k174_144 : lkp pt174 144 = iP 145 (fAld 0) := rfl
theorem k174_145 : lkp pt174 145 = iRR 148 (gtR 89) := rfl
theorem k174_148 : lkp pt174 148 = iP 150 (fK (.inl 7)) := rfl
theorem k174_150 : lkp pt174 150 = iP 151 (fAld 0) := rfl
theorem k174_151 : lkp pt174 151 = iRI 154 (gtI 83) := rfl
theorem k174_154 : lkp pt174 154 = iP 155 (f2I (fun x y => x * y)) := rfl
theorem k174_155 : lkp pt174 155 = iP 156 (fK (.inl 1)) := rfl
theorem k174_156 : lkp pt174 156 = iP 157 (f2I (fun x y => x + y)) := rfl
theorem k174_157 : lkp pt174 157 = iRI 158 qAI := rfl
theorem k174_158 : lkp pt174 158 = iW 161 (ptI 80) := rfl
theorem k174_161 : lkp pt174 161 = iP 162 (fAld 0) := rfl
theorem k174_162 : lkp pt174 162 = iP 163 (fAld 0) := rfl
theorem k174_163 : lkp pt174 163 = iRR 166 (gtR 89) := rfl
theorem k174_166 : lkp pt174 166 = iP 168 (fK (.inl 7)) := rfl
theorem k174_168 : lkp pt174 168 = iP 169 (fAld 0) := rfl
theorem k174_169 : lkp pt174 169 = iRI 172 (gtI 83) := rfl
theorem k174_172 : lkp pt174 172 = iP 173 (f2I (fun x y => x * y)) := rfl
theorem k174_173 : lkp pt174 173 = iP 174 (fK (.inl 2)) := rfl
theorem k174_174 : lkp pt174 174 = iP 175 (f2I (fun x y => x + y)) := rfl
theorem k174_175 : lkp pt174 175 = iRI 176 qAI := rfl
theorem k174_176 : lkp pt174 176 = iW 179 (ptI 81) := rfl
theorem k174_179 : lkp pt174 179 = iP 180 (fK (.inl 0)) := rfl
theorem k174_180 : lkp pt174 180 = iP 182 (fIst 6) := rfl
theorem k174_182 : lkp pt174 182 = iP 184 (fIld 6) := rfl
theorem k174_184 : lkp pt174 184 = iP 185 (fK (.inl 3)) := rfl
theorem k174_185 : lkp pt174 185 = iB 188 218 (b2 (fun x y => decide (y ≤ x))) := rfl
theorem k174_188 : lkp pt174 188 = iP 189 (fAld 0) := rfl
theorem k174_189 : lkp pt174 189 = iRR 192 (gtR 82) := rfl
set_option maxRecDepth 100000 in
theorem k174_192 : lkp pt174 192 = iP 194 (fIld 6) := rfl
set_option maxRecDepth 100000 in
theorem k174_194 : lkp pt174 194 = iP 195 (fAld 0) := rfl
set_option maxRecDepth 100000 in
theorem k174_195 : lkp pt174 195 = iRR 198 (gtR 89) := rfl
set_option maxRecDepth 100000 in
theorem k174_198 : lkp pt174 198 = iP 200 (fK (.inl 7)) := rfl
set_option maxRecDepth 100000 in
theorem k174_200 : lkp pt174 200 = iP 201 (fAld 0) := rfl
set_option maxRecDepth 100000 in
theorem k174_201 : lkp pt174 201 = iRI 204 (gtI 83) := rfl
set_option maxRecDepth 100000 in
theorem k174_204 : lkp pt174 204 = iP 205 (f2I (fun x y => x * y)) := rfl
set_option maxRecDepth 100000 in
theorem k174_205 : lkp pt174 205 = iP 206 (fK (.inl 3)) := rfl
set_option maxRecDepth 100000 in
theorem k174_206 : lkp pt174 206 = iP 207 (f2I (fun x y => x + y)) := rfl
set_option maxRecDepth 100000 in
theorem k174_207 : lkp pt174 207 = iP 209 (fIld 6) := rfl
set_option maxRecDepth 100000 in
theorem k174_209 : lkp pt174 209 = iP 210 (f2I (fun x y => x + y)) := rfl
set_option maxRecDepth 100000 in
theorem k174_210 : lkp pt174 210 = iRI 211 qAI := rfl
set_option maxRecDepth 100000 in
theorem k174_211 : lkp pt174 211 = iW 212 wAI := rfl
set_option maxRecDepth 100000 in
theorem k174_212 : lkp pt174 212 = iP 215 (fInc 6 1) := rfl
set_option maxRecDepth 100000 in
theorem k174_215 : lkp pt174 215 = iP 182 fGo := rfl
set_option maxRecDepth 100000 in
theorem k174_218 : lkp pt174 218 = iP 41 fGo := rfl
set_option maxRecDepth 100000 in
theorem k174_221 : lkp pt174 221 = iP 222 (fAld 0) := rfl
set_option maxRecDepth 100000 in
theorem k174_222 : lkp pt174 222 = iRI 225 (gtI 78) := rfl
set_option maxRecDepth 100000 in
theorem k174_225 : lkp pt174 225 = iP 227 (fIst 6) := rfl
set_option maxRecDepth 100000 in
theorem k174_227 : lkp pt174 227 = iP 228 (fAld 0) := rfl
set_option maxRecDepth 100000 in
theorem k174_228 : lkp pt174 228 = iRR 231 (gtR 52) := rfl
set_option maxRecDepth 100000 in
theorem k174_231 : lkp pt174 231 = iP 233 (fIld 6) := rfl
set_option maxRecDepth 100000 in
theorem k174_233 : lkp pt174 233 = iRI 234 qAI := rfl
set_option maxRecDepth 100000 in
theorem k174_234 : lkp pt174 234 = iSw 867 1 [280, 867, 310, 867, 573, 437, 712, 785] := rfl
set_option maxRecDepth 100000 in
theorem k174_280 : lkp pt174 280 = iP 281 (fAld 0) := rfl
set_option maxRecDepth 100000 in
theorem k174_281 : lkp pt174 281 = iP 282 fDup := rfl
set_option maxRecDepth 100000 in
theorem k174_282 : lkp pt174 282 = iRJ 285 (gtJ 77) := rfl
set_option maxRecDepth 100000 in
theorem k174_285 : lkp pt174 285 = iP 286 (fAld 0) := rfl
set_option maxRecDepth 100000 in
theorem k174_286 : lkp pt174 286 = iRR 289 (gtR 53) := rfl
set_option maxRecDepth 100000 in
theorem k174_289 : lkp pt174 289 = iP 291 (fIld 6) := rfl
set_option maxRecDepth 100000 in
theorem k174_291 : lkp pt174 291 = iRI 292 qAI := rfl
set_option maxRecDepth 100000 in
theorem k174_292 : lkp pt174 292 = iP 293 fI2l := rfl
set_option maxRecDepth 100000 in
theorem k174_293 : lkp pt174 293 = iP 294 (f2J (fun x y => x + y)) := rfl
set_option maxRecDepth 100000 in
theorem k174_294 : lkp pt174 294 = iW 297 (ptJ 77) := rfl
set_option maxRecDepth 100000 in
theorem k174_297 : lkp pt174 297 = iP 298 (fAld 0) := rfl
set_option maxRecDepth 100000 in
theorem k174_298 : lkp pt174 298 = iP 299 fDup := rfl
set_option maxRecDepth 100000 in
theorem k174_299 : lkp pt174 299 = iRI 302 (gtI 78) := rfl
set_option maxRecDepth 100000 in
theorem k174_302 : lkp pt174 302 = iP 303 (fK (.inl 1)) := rfl
set_option maxRecDepth 100000 in
theorem k174_303 : lkp pt174 303 = iP 304 (f2I (fun x y => x + y)) := rfl
set_option maxRecDepth 100000 in
theorem k174_304 : lkp pt174 304 = iW 307 (ptI 78) := rfl
set_option maxRecDepth 100000 in
theorem k174_307 : lkp pt174 307 = iP 1056 fGo := rfl
set_option maxRecDepth 100000 in
theorem k174_310 : lkp pt174 310 = iP 311 (fAld 0) := rfl
set_option maxRecDepth 100000 in
theorem k174_311 : lkp pt174 311 = iP 313 (fIld 6) := rfl
set_option maxRecDepth 100000 in
theorem k174_313 : lkp pt174 313 = iP 314 (fK (.inl 0)) := rfl
set_option maxRecDepth 100000 in
theorem k174_314 : lkp pt174 314 = iCK 317 12 175 5 3 1 := rfl
set_option maxRecDepth 100000 in
theorem k174_317 : lkp pt174 317 = iP 319 (fIst 7) := rfl
set_option maxRecDepth 100000 in
theorem k174_319 : lkp pt174 319 = iP 321 (fIld 7) := rfl
set_option maxRecDepth 100000 in
theorem k174_321 : lkp pt174 321 = iB 324 341 (b1 (fun x => decide (x ≠ 0))) := rfl
set_option maxRecDepth 100000 in
theorem k174_324 : lkp pt174 324 = iP 325 (fAld 0) := rfl
set_option maxRecDepth 100000 in
theorem k174_325 : lkp pt174 325 = iP 326 (fAld 0) := rfl
set_option maxRecDepth 100000 in
theorem k174_326 : lkp pt174 326 = iP 328 (fIld 6) := rfl
set_option maxRecDepth 100000 in
theorem k174_328 : lkp pt174 328 = iP 330 (fK (.inl 6)) := rfl
set_option maxRecDepth 100000 in
theorem k174_330 : lkp pt174 330 = iCK 333 12 176 5 3 1 := rfl
set_option maxRecDepth 100000 in
theorem k174_333 : lkp pt174 333 = iP 334 (fK (.inl 1)) := rfl
set_option maxRecDepth 100000 in
theorem k174_334 : lkp pt174 334 = iP 335 (f2I (fun x y => x + y)) := rfl
set_option maxRecDepth 100000 in
theorem k174_335 : lkp pt174 335 = iW 338 (ptI 78) := rfl
set_option maxRecDepth 100000 in
theorem k174_338 : lkp pt174 338 = iP 1056 fGo := rfl
set_option maxRecDepth 100000 in
theorem k174_341 : lkp pt174 341 = iP 342 (fAld 0) := rfl
set_option maxRecDepth 100000 in
theorem k174_342 : lkp pt174 342 = iCK 345 12 177 1 1 1 := rfl
set_option maxRecDepth 100000 in
theorem k174_345 : lkp pt174 345 = iB 348 352 (b1 (fun x => decide (x ≠ 0))) := rfl
set_option maxRecDepth 100000 in
theorem k174_348 : lkp pt174 348 = iP 351 (fK (.inl (-1000004))) := rfl
set_option maxRecDepth 100000 in
theorem k174_351 : lkp pt174 351 = iRet rI := rfl
set_option maxRecDepth 100000 in
theorem k174_352 : lkp pt174 352 = iP 353 (fAld 0) := rfl
set_option maxRecDepth 100000 in
theorem k174_353 : lkp pt174 353 = iP 354 fDup := rfl
set_option maxRecDepth 100000 in
theorem k174_354 : lkp pt174 354 = iRJ 357 (gtJ 77) := rfl
set_option maxRecDepth 100000 in
theorem k174_357 : lkp pt174 357 = iP 358 (fK (.inr (.inl 1))) := rfl
set_option maxRecDepth 100000 in
theorem k174_358 : lkp pt174 358 = iP 359 (f2J (fun x y => x + y)) := rfl
set_option maxRecDepth 100000 in
theorem k174_359 : lkp pt174 359 = iW 362 (ptJ 77) := rfl
set_option maxRecDepth 100000 in
theorem k174_362 : lkp pt174 362 = iP 363 (fAld 0) := rfl
set_option maxRecDepth 100000 in
theorem k174_363 : lkp pt174 363 = iRR 366 (gtR 84) := rfl
set_option maxRecDepth 100000 in
theorem k174_366 : lkp pt174 366 = iP 367 (fAld 0) := rfl
set_option maxRecDepth 100000 in
theorem k174_367 : lkp pt174 367 = iRI 370 (gtI 83) := rfl
set_option maxRecDepth 100000 in
theorem k174_370 : lkp pt174 370 = iP 372 (fIld 6) := rfl
set_option maxRecDepth 100000 in
theorem k174_372 : lkp pt174 372 = iW 373 wAI := rfl
set_option maxRecDepth 100000 in
theorem k174_373 : lkp pt174 373 = iP 374 (fAld 0) := rfl
set_option maxRecDepth 100000 in
theorem k174_374 : lkp pt174 374 = iRR 377 (gtR 85) := rfl
set_option maxRecDepth 100000 in
theorem k174_377 : lkp pt174 377 = iP 378 (fAld 0) := rfl
set_option maxRecDepth 100000 in
theorem k174_378 : lkp pt174 378 = iRI 381 (gtI 83) := rfl
set_option maxRecDepth 100000 in
theorem k174_381 : lkp pt174 381 = iP 382 (fK (.inl 1)) := rfl
set_option maxRecDepth 100000 in
theorem k174_382 : lkp pt174 382 = iW 383 wAI := rfl
set_option maxRecDepth 100000 in
theorem k174_383 : lkp pt174 383 = iP 384 (fAld 0) := rfl
set_option maxRecDepth 100000 in
theorem k174_384 : lkp pt174 384 = iRR 387 (gtR 86) := rfl
set_option maxRecDepth 100000 in
theorem k174_387 : lkp pt174 387 = iP 388 (fAld 0) := rfl
set_option maxRecDepth 100000 in
theorem k174_388 : lkp pt174 388 = iRI 391 (gtI 83) := rfl
set_option maxRecDepth 100000 in
theorem k174_391 : lkp pt174 391 = iP 393 (fIld 7) := rfl
set_option maxRecDepth 100000 in
theorem k174_393 : lkp pt174 393 = iW 394 wAI := rfl
set_option maxRecDepth 100000 in
theorem k174_394 : lkp pt174 394 = iP 395 (fAld 0) := rfl
set_option maxRecDepth 100000 in
theorem k174_395 : lkp pt174 395 = iP 396 fDup := rfl
set_option maxRecDepth 100000 in
theorem k174_396 : lkp pt174 396 = iRI 399 (gtI 83) := rfl
set_option maxRecDepth 100000 in
theorem k174_399 : lkp pt174 399 = iP 400 (fK (.inl 1)) := rfl
set_option maxRecDepth 100000 in
theorem k174_400 : lkp pt174 400 = iP 401 (f2I (fun x y => x + y)) := rfl
set_option maxRecDepth 100000 in
theorem k174_401 : lkp pt174 401 = iW 404 (ptI 83) := rfl
set_option maxRecDepth 100000 in
theorem k174_404 : lkp pt174 404 = iP 405 (fAld 0) := rfl
set_option maxRecDepth 100000 in
theorem k174_405 : lkp pt174 405 = iRR 408 (gtR 82) := rfl
set_option maxRecDepth 100000 in
theorem k174_408 : lkp pt174 408 = iP 409 (fAld 0) := rfl
set_option maxRecDepth 100000 in
theorem k174_409 : lkp pt174 409 = iRI 412 (gtI 81) := rfl
set_option maxRecDepth 100000 in
theorem k174_412 : lkp pt174 412 = iP 413 (fK (.inl 1)) := rfl
set_option maxRecDepth 100000 in
theorem k174_413 : lkp pt174 413 = iW 414 wAI := rfl
set_option maxRecDepth 100000 in
theorem k174_414 : lkp pt174 414 = iP 415 (fAld 0) := rfl
set_option maxRecDepth 100000 in
theorem k174_415 : lkp pt174 415 = iP 416 fDup := rfl
set_option maxRecDepth 100000 in
theorem k174_416 : lkp pt174 416 = iRI 419 (gtI 81) := rfl
set_option maxRecDepth 100000 in
theorem k174_419 : lkp pt174 419 = iP 420 (fK (.inl 1)) := rfl
set_option maxRecDepth 100000 in
theorem k174_420 : lkp pt174 420 = iP 421 (f2I (fun x y => x + y)) := rfl
set_option maxRecDepth 100000 in
theorem k174_421 : lkp pt174 421 = iW 424 (ptI 81) := rfl
set_option maxRecDepth 100000 in
theorem k174_424 : lkp pt174 424 = iP 425 (fAld 0) := rfl
set_option maxRecDepth 100000 in
theorem k174_425 : lkp pt174 425 = iP 426 fDup := rfl
set_option maxRecDepth 100000 in
theorem k174_426 : lkp pt174 426 = iRI 429 (gtI 78) := rfl
set_option maxRecDepth 100000 in
theorem k174_429 : lkp pt174 429 = iP 430 (fK (.inl 1)) := rfl
set_option maxRecDepth 100000 in
theorem k174_430 : lkp pt174 430 = iP 431 (f2I (fun x y => x + y)) := rfl
set_option maxRecDepth 100000 in
theorem k174_431 : lkp pt174 431 = iW 434 (ptI 78) := rfl
set_option maxRecDepth 100000 in
theorem k174_434 : lkp pt174 434 = iP 1056 fGo := rfl
set_option maxRecDepth 100000 in
theorem k174_437 : lkp pt174 437 = iP 438 (fAld 0) := rfl
set_option maxRecDepth 100000 in
theorem k174_438 : lkp pt174 438 = iRR 441 (gtR 85) := rfl
set_option maxRecDepth 100000 in
theorem k174_441 : lkp pt174 441 = iP 442 (fAld 0) := rfl
set_option maxRecDepth 100000 in
theorem k174_442 : lkp pt174 442 = iRI 445 (gtI 83) := rfl
set_option maxRecDepth 100000 in
theorem k174_445 : lkp pt174 445 = iP 446 (fK (.inl 1)) := rfl
set_option maxRecDepth 100000 in
theorem k174_446 : lkp pt174 446 = iP 447 (f2I (fun x y => x - y)) := rfl
set_option maxRecDepth 100000 in
theorem k174_447 : lkp pt174 447 = iRI 448 qAI := rfl
set_option maxRecDepth 100000 in
theorem k174_448 : lkp pt174 448 = iP 449 (fAld 0) := rfl
set_option maxRecDepth 100000 in
theorem k174_449 : lkp pt174 449 = iRR 452 (gtR 86) := rfl
set_option maxRecDepth 100000 in
theorem k174_452 : lkp pt174 452 = iP 453 (fAld 0) := rfl
set_option maxRecDepth 100000 in
theorem k174_453 : lkp pt174 453 = iRI 456 (gtI 83) := rfl
set_option maxRecDepth 100000 in
theorem k174_456 : lkp pt174 456 = iP 457 (fK (.inl 1)) := rfl
set_option maxRecDepth 100000 in
theorem k174_457 : lkp pt174 457 = iP 458 (f2I (fun x y => x - y)) := rfl
set_option maxRecDepth 100000 in
theorem k174_458 : lkp pt174 458 = iRI 459 qAI := rfl
set_option maxRecDepth 100000 in
theorem k174_459 : lkp pt174 459 = iB 462 540 (b2 (fun x y => decide (y ≤ x))) := rfl
set_option maxRecDepth 100000 in
theorem k174_462 : lkp pt174 462 = iP 463 (fAld 0) := rfl
set_option maxRecDepth 100000 in
theorem k174_463 : lkp pt174 463 = iCK 466 12 177 1 1 1 := rfl
set_option maxRecDepth 100000 in
theorem k174_466 : lkp pt174 466 = iB 469 473 (b1 (fun x => decide (x ≠ 0))) := rfl
set_option maxRecDepth 100000 in
theorem k174_469 : lkp pt174 469 = iP 472 (fK (.inl (-1000004))) := rfl
set_option maxRecDepth 100000 in
theorem k174_472 : lkp pt174 472 = iRet rI := rfl
set_option maxRecDepth 100000 in
theorem k174_473 : lkp pt174 473 = iP 474 (fAld 0) := rfl
set_option maxRecDepth 100000 in
theorem k174_474 : lkp pt174 474 = iP 475 fDup := rfl
set_option maxRecDepth 100000 in
theorem k174_475 : lkp pt174 475 = iRJ 478 (gtJ 77) := rfl
set_option maxRecDepth 100000 in
theorem k174_478 : lkp pt174 478 = iP 479 (fK (.inr (.inl 1))) := rfl
set_option maxRecDepth 100000 in
theorem k174_479 : lkp pt174 479 = iP 480 (f2J (fun x y => x + y)) := rfl
set_option maxRecDepth 100000 in
theorem k174_480 : lkp pt174 480 = iW 483 (ptJ 77) := rfl
set_option maxRecDepth 100000 in
theorem k174_483 : lkp pt174 483 = iP 484 (fAld 0) := rfl
set_option maxRecDepth 100000 in
theorem k174_484 : lkp pt174 484 = iRR 487 (gtR 85) := rfl
set_option maxRecDepth 100000 in
theorem k174_487 : lkp pt174 487 = iP 488 (fAld 0) := rfl
set_option maxRecDepth 100000 in
theorem k174_488 : lkp pt174 488 = iRI 491 (gtI 83) := rfl
set_option maxRecDepth 100000 in
theorem k174_491 : lkp pt174 491 = iP 492 (fK (.inl 1)) := rfl
set_option maxRecDepth 100000 in
theorem k174_492 : lkp pt174 492 = iP 493 (f2I (fun x y => x - y)) := rfl
set_option maxRecDepth 100000 in
theorem k174_493 : lkp pt174 493 = iP 494 fDup2 := rfl
set_option maxRecDepth 100000 in
theorem k174_494 : lkp pt174 494 = iRI 495 qAI := rfl
set_option maxRecDepth 100000 in
theorem k174_495 : lkp pt174 495 = iP 496 (fK (.inl 1)) := rfl
set_option maxRecDepth 100000 in
theorem k174_496 : lkp pt174 496 = iP 497 (f2I (fun x y => x + y)) := rfl
set_option maxRecDepth 100000 in
theorem k174_497 : lkp pt174 497 = iW 498 wAI := rfl
set_option maxRecDepth 100000 in
theorem k174_498 : lkp pt174 498 = iP 499 (fAld 0) := rfl
set_option maxRecDepth 100000 in
theorem k174_499 : lkp pt174 499 = iRR 502 (gtR 82) := rfl
set_option maxRecDepth 100000 in
theorem k174_502 : lkp pt174 502 = iP 503 (fAld 0) := rfl
set_option maxRecDepth 100000 in
theorem k174_503 : lkp pt174 503 = iRI 506 (gtI 81) := rfl
set_option maxRecDepth 100000 in
theorem k174_506 : lkp pt174 506 = iP 507 (fK (.inl 1)) := rfl
set_option maxRecDepth 100000 in
theorem k174_507 : lkp pt174 507 = iP 508 (f2I (fun x y => x - y)) := rfl
set_option maxRecDepth 100000 in
theorem k174_508 : lkp pt174 508 = iP 509 (fAld 0) := rfl
set_option maxRecDepth 100000 in
theorem k174_509 : lkp pt174 509 = iRR 512 (gtR 85) := rfl
set_option maxRecDepth 100000 in
theorem k174_512 : lkp pt174 512 = iP 513 (fAld 0) := rfl
set_option maxRecDepth 100000 in
theorem k174_513 : lkp pt174 513 = iRI 516 (gtI 83) := rfl
set_option maxRecDepth 100000 in
theorem k174_516 : lkp pt174 516 = iP 517 (fK (.inl 1)) := rfl
set_option maxRecDepth 100000 in
theorem k174_517 : lkp pt174 517 = iP 518 (f2I (fun x y => x - y)) := rfl
set_option maxRecDepth 100000 in
theorem k174_518 : lkp pt174 518 = iRI 519 qAI := rfl
set_option maxRecDepth 100000 in
theorem k174_519 : lkp pt174 519 = iW 520 wAI := rfl
set_option maxRecDepth 100000 in
theorem k174_520 : lkp pt174 520 = iP 521 (fAld 0) := rfl
set_option maxRecDepth 100000 in
theorem k174_521 : lkp pt174 521 = iP 522 (fAld 0) := rfl
set_option maxRecDepth 100000 in
theorem k174_522 : lkp pt174 522 = iRR 525 (gtR 84) := rfl
set_option maxRecDepth 100000 in
theorem k174_525 : lkp pt174 525 = iP 526 (fAld 0) := rfl
set_option maxRecDepth 100000 in
theorem k174_526 : lkp pt174 526 = iRI 529 (gtI 83) := rfl
set_option maxRecDepth 100000 in
theorem k174_529 : lkp pt174 529 = iP 530 (fK (.inl 1)) := rfl
set_option maxRecDepth 100000 in
theorem k174_530 : lkp pt174 530 = iP 531 (f2I (fun x y => x - y)) := rfl
set_option maxRecDepth 100000 in
theorem k174_531 : lkp pt174 531 = iRI 532 qAI := rfl
set_option maxRecDepth 100000 in
theorem k174_532 : lkp pt174 532 = iP 533 (fK (.inl 1)) := rfl
set_option maxRecDepth 100000 in
theorem k174_533 : lkp pt174 533 = iP 534 (f2I (fun x y => x + y)) := rfl
set_option maxRecDepth 100000 in
theorem k174_534 : lkp pt174 534 = iW 537 (ptI 78) := rfl
set_option maxRecDepth 100000 in
theorem k174_537 : lkp pt174 537 = iP 1056 fGo := rfl
set_option maxRecDepth 100000 in
theorem k174_540 : lkp pt174 540 = iP 541 (fAld 0) := rfl
set_option maxRecDepth 100000 in
theorem k174_541 : lkp pt174 541 = iP 542 fDup := rfl
set_option maxRecDepth 100000 in
theorem k174_542 : lkp pt174 542 = iRI 545 (gtI 83) := rfl
set_option maxRecDepth 100000 in
theorem k174_545 : lkp pt174 545 = iP 546 (fK (.inl 1)) := rfl
set_option maxRecDepth 100000 in
theorem k174_546 : lkp pt174 546 = iP 547 (f2I (fun x y => x - y)) := rfl
set_option maxRecDepth 100000 in
theorem k174_547 : lkp pt174 547 = iW 550 (ptI 83) := rfl
set_option maxRecDepth 100000 in
theorem k174_550 : lkp pt174 550 = iP 551 (fAld 0) := rfl
set_option maxRecDepth 100000 in
theorem k174_551 : lkp pt174 551 = iP 552 fDup := rfl
set_option maxRecDepth 100000 in
theorem k174_552 : lkp pt174 552 = iRI 555 (gtI 81) := rfl
set_option maxRecDepth 100000 in
theorem k174_555 : lkp pt174 555 = iP 556 (fK (.inl 1)) := rfl
set_option maxRecDepth 100000 in
theorem k174_556 : lkp pt174 556 = iP 557 (f2I (fun x y => x - y)) := rfl
set_option maxRecDepth 100000 in
theorem k174_557 : lkp pt174 557 = iW 560 (ptI 81) := rfl
set_option maxRecDepth 100000 in
theorem k174_560 : lkp pt174 560 = iP 561 (fAld 0) := rfl
set_option maxRecDepth 100000 in
theorem k174_561 : lkp pt174 561 = iP 562 fDup := rfl
set_option maxRecDepth 100000 in
theorem k174_562 : lkp pt174 562 = iRI 565 (gtI 78) := rfl
set_option maxRecDepth 100000 in
theorem k174_565 : lkp pt174 565 = iP 566 (fK (.inl 1)) := rfl
set_option maxRecDepth 100000 in
theorem k174_566 : lkp pt174 566 = iP 567 (f2I (fun x y => x + y)) := rfl
set_option maxRecDepth 100000 in
theorem k174_567 : lkp pt174 567 = iW 570 (ptI 78) := rfl
set_option maxRecDepth 100000 in
theorem k174_570 : lkp pt174 570 = iP 1056 fGo := rfl
set_option maxRecDepth 100000 in
theorem k174_573 : lkp pt174 573 = iP 574 (fAld 0) := rfl
set_option maxRecDepth 100000 in
theorem k174_574 : lkp pt174 574 = iCK 577 12 177 1 1 1 := rfl
set_option maxRecDepth 100000 in
theorem k174_577 : lkp pt174 577 = iB 580 584 (b1 (fun x => decide (x ≠ 0))) := rfl
set_option maxRecDepth 100000 in
theorem k174_580 : lkp pt174 580 = iP 583 (fK (.inl (-1000004))) := rfl
set_option maxRecDepth 100000 in
theorem k174_583 : lkp pt174 583 = iRet rI := rfl
set_option maxRecDepth 100000 in
theorem k174_584 : lkp pt174 584 = iP 585 (fAld 0) := rfl
set_option maxRecDepth 100000 in
theorem k174_585 : lkp pt174 585 = iP 586 fDup := rfl
set_option maxRecDepth 100000 in
theorem k174_586 : lkp pt174 586 = iRJ 589 (gtJ 77) := rfl
set_option maxRecDepth 100000 in
theorem k174_589 : lkp pt174 589 = iP 590 (fK (.inr (.inl 1))) := rfl
set_option maxRecDepth 100000 in
theorem k174_590 : lkp pt174 590 = iP 591 (f2J (fun x y => x + y)) := rfl
set_option maxRecDepth 100000 in
theorem k174_591 : lkp pt174 591 = iW 594 (ptJ 77) := rfl
set_option maxRecDepth 100000 in
theorem k174_594 : lkp pt174 594 = iP 595 (fAld 0) := rfl
set_option maxRecDepth 100000 in
theorem k174_595 : lkp pt174 595 = iRR 598 (gtR 84) := rfl
set_option maxRecDepth 100000 in
theorem k174_598 : lkp pt174 598 = iP 599 (fAld 0) := rfl
set_option maxRecDepth 100000 in
theorem k174_599 : lkp pt174 599 = iRI 602 (gtI 83) := rfl
set_option maxRecDepth 100000 in
theorem k174_602 : lkp pt174 602 = iP 604 (fIld 6) := rfl
set_option maxRecDepth 100000 in
theorem k174_604 : lkp pt174 604 = iW 605 wAI := rfl
set_option maxRecDepth 100000 in
theorem k174_605 : lkp pt174 605 = iP 606 (fAld 0) := rfl
set_option maxRecDepth 100000 in
theorem k174_606 : lkp pt174 606 = iRR 609 (gtR 87) := rfl
set_option maxRecDepth 100000 in
theorem k174_609 : lkp pt174 609 = iP 610 (fAld 0) := rfl
set_option maxRecDepth 100000 in
theorem k174_610 : lkp pt174 610 = iRI 613 (gtI 83) := rfl
set_option maxRecDepth 100000 in
theorem k174_613 : lkp pt174 613 = iP 614 (fAld 0) := rfl
set_option maxRecDepth 100000 in
theorem k174_614 : lkp pt174 614 = iRJ 617 (gtJ 77) := rfl
set_option maxRecDepth 100000 in
theorem k174_617 : lkp pt174 617 = iW 618 wAJ := rfl
set_option maxRecDepth 100000 in
theorem k174_618 : lkp pt174 618 = iP 619 (fAld 0) := rfl
set_option maxRecDepth 100000 in
theorem k174_619 : lkp pt174 619 = iP 620 fDup := rfl
set_option maxRecDepth 100000 in
theorem k174_620 : lkp pt174 620 = iRI 623 (gtI 83) := rfl
set_option maxRecDepth 100000 in
theorem k174_623 : lkp pt174 623 = iP 624 (fK (.inl 1)) := rfl
set_option maxRecDepth 100000 in
theorem k174_624 : lkp pt174 624 = iP 625 (f2I (fun x y => x + y)) := rfl
set_option maxRecDepth 100000 in
theorem k174_625 : lkp pt174 625 = iW 628 (ptI 83) := rfl
set_option maxRecDepth 100000 in
theorem k174_628 : lkp pt174 628 = iP 630 (fIld 4) := rfl
set_option maxRecDepth 100000 in
theorem k174_630 : lkp pt174 630 = iP 631 (fK (.inl 1)) := rfl
set_option maxRecDepth 100000 in
theorem k174_631 : lkp pt174 631 = iB 634 638 (b2 (fun x y => decide (x ≠ y))) := rfl
set_option maxRecDepth 100000 in
theorem k174_634 : lkp pt174 634 = iP 635 (fK (.inl 1)) := rfl
set_option maxRecDepth 100000 in
theorem k174_635 : lkp pt174 635 = iP 639 fGo := rfl
set_option maxRecDepth 100000 in
theorem k174_638 : lkp pt174 638 = iP 639 (fK (.inl 0)) := rfl
set_option maxRecDepth 100000 in
theorem k174_639 : lkp pt174 639 = iP 641 (fIst 7) := rfl
set_option maxRecDepth 100000 in
theorem k174_641 : lkp pt174 641 = iP 643 (fIld 4) := rfl
set_option maxRecDepth 100000 in
theorem k174_643 : lkp pt174 643 = iP 644 (fK (.inl 2)) := rfl
set_option maxRecDepth 100000 in
theorem k174_644 : lkp pt174 644 = iB 647 683 (b2 (fun x y => decide (x ≠ y))) := rfl
set_option maxRecDepth 100000 in
theorem k174_647 : lkp pt174 647 = iP 648 (fAld 0) := rfl
set_option maxRecDepth 100000 in
theorem k174_648 : lkp pt174 648 = iP 649 (fAld 0) := rfl
set_option maxRecDepth 100000 in
theorem k174_649 : lkp pt174 649 = iRI 652 (gtI 57) := rfl
set_option maxRecDepth 100000 in
theorem k174_652 : lkp pt174 652 = iP 655 (fK (.inl 1103515245)) := rfl
set_option maxRecDepth 100000 in
theorem k174_655 : lkp pt174 655 = iP 656 (f2I (fun x y => x * y)) := rfl
set_option maxRecDepth 100000 in
theorem k174_656 : lkp pt174 656 = iP 659 (fK (.inl 12345)) := rfl
set_option maxRecDepth 100000 in
theorem k174_659 : lkp pt174 659 = iP 660 (f2I (fun x y => x + y)) := rfl
set_option maxRecDepth 100000 in
theorem k174_660 : lkp pt174 660 = iW 663 (ptI 57) := rfl
set_option maxRecDepth 100000 in
theorem k174_663 : lkp pt174 663 = iP 664 (fAld 0) := rfl
set_option maxRecDepth 100000 in
theorem k174_664 : lkp pt174 664 = iRI 667 (gtI 57) := rfl
set_option maxRecDepth 100000 in
theorem k174_667 : lkp pt174 667 = iP 669 (fK (.inl 16)) := rfl
set_option maxRecDepth 100000 in
theorem k174_669 : lkp pt174 669 = iP 670 (f2I (fun x y => x >>> (y &&& 31))) := rfl
set_option maxRecDepth 100000 in
theorem k174_670 : lkp pt174 670 = iP 671 (fK (.inl 1)) := rfl
set_option maxRecDepth 100000 in
theorem k174_671 : lkp pt174 671 = iP 672 (f2I (fun x y => x &&& y)) := rfl
set_option maxRecDepth 100000 in
theorem k174_672 : lkp pt174 672 = iP 673 (fK (.inl 1)) := rfl
set_option maxRecDepth 100000 in
theorem k174_673 : lkp pt174 673 = iB 676 680 (b2 (fun x y => decide (x ≠ y))) := rfl
set_option maxRecDepth 100000 in
theorem k174_676 : lkp pt174 676 = iP 677 (fK (.inl 1)) := rfl
set_option maxRecDepth 100000 in
theorem k174_677 : lkp pt174 677 = iP 681 fGo := rfl
set_option maxRecDepth 100000 in
theorem k174_680 : lkp pt174 680 = iP 681 (fK (.inl 0)) := rfl
set_option maxRecDepth 100000 in
theorem k174_681 : lkp pt174 681 = iP 683 (fIst 7) := rfl
set_option maxRecDepth 100000 in
theorem k174_683 : lkp pt174 683 = iP 684 (fAld 0) := rfl
set_option maxRecDepth 100000 in
theorem k174_684 : lkp pt174 684 = iP 686 (fIld 7) := rfl
set_option maxRecDepth 100000 in
theorem k174_686 : lkp pt174 686 = iB 689 702 (b1 (fun x => decide (x = 0))) := rfl
set_option maxRecDepth 100000 in
theorem k174_689 : lkp pt174 689 = iP 690 (fAld 0) := rfl
set_option maxRecDepth 100000 in
theorem k174_690 : lkp pt174 690 = iP 692 (fIld 6) := rfl
set_option maxRecDepth 100000 in
theorem k174_692 : lkp pt174 692 = iP 694 (fK (.inl 7)) := rfl
set_option maxRecDepth 100000 in
theorem k174_694 : lkp pt174 694 = iCK 697 12 176 5 3 1 := rfl
set_option maxRecDepth 100000 in
theorem k174_697 : lkp pt174 697 = iP 698 (fK (.inl 1)) := rfl
set_option maxRecDepth 100000 in
theorem k174_698 : lkp pt174 698 = iP 699 (f2I (fun x y => x + y)) := rfl
set_option maxRecDepth 100000 in
theorem k174_699 : lkp pt174 699 = iP 706 fGo := rfl
set_option maxRecDepth 100000 in
theorem k174_702 : lkp pt174 702 = iP 704 (fIld 6) := rfl
set_option maxRecDepth 100000 in
theorem k174_704 : lkp pt174 704 = iP 705 (fK (.inl 1)) := rfl
set_option maxRecDepth 100000 in
theorem k174_705 : lkp pt174 705 = iP 706 (f2I (fun x y => x + y)) := rfl
set_option maxRecDepth 100000 in
theorem k174_706 : lkp pt174 706 = iW 709 (ptI 78) := rfl
set_option maxRecDepth 100000 in
theorem k174_709 : lkp pt174 709 = iP 1056 fGo := rfl
set_option maxRecDepth 100000 in
theorem k174_712 : lkp pt174 712 = iP 714 (fIld 4) := rfl
set_option maxRecDepth 100000 in
theorem k174_714 : lkp pt174 714 = iP 715 (fK (.inl 2)) := rfl
set_option maxRecDepth 100000 in
theorem k174_715 : lkp pt174 715 = iB 718 761 (b2 (fun x y => decide (x ≤ y))) := rfl
set_option maxRecDepth 100000 in
theorem k174_718 : lkp pt174 718 = iP 719 (fAld 0) := rfl
set_option maxRecDepth 100000 in
theorem k174_719 : lkp pt174 719 = iRR 722 (gtR 88) := rfl
set_option maxRecDepth 100000 in
theorem k174_722 : lkp pt174 722 = iP 723 (fAld 0) := rfl
set_option maxRecDepth 100000 in
theorem k174_723 : lkp pt174 723 = iRI 726 (gtI 83) := rfl
set_option maxRecDepth 100000 in
theorem k174_726 : lkp pt174 726 = iP 727 (fK (.inl 1)) := rfl
set_option maxRecDepth 100000 in
theorem k174_727 : lkp pt174 727 = iP 728 (f2I (fun x y => x - y)) := rfl
set_option maxRecDepth 100000 in
theorem k174_728 : lkp pt174 728 = iP 729 (fAld 0) := rfl
set_option maxRecDepth 100000 in
theorem k174_729 : lkp pt174 729 = iRJ 732 (gtJ 77) := rfl
set_option maxRecDepth 100000 in
theorem k174_732 : lkp pt174 732 = iW 733 wAJ := rfl
set_option maxRecDepth 100000 in
theorem k174_733 : lkp pt174 733 = iP 734 (fAld 0) := rfl
set_option maxRecDepth 100000 in
theorem k174_734 : lkp pt174 734 = iP 735 (fAld 0) := rfl
set_option maxRecDepth 100000 in
theorem k174_735 : lkp pt174 735 = iRR 738 (gtR 87) := rfl
set_option maxRecDepth 100000 in
theorem k174_738 : lkp pt174 738 = iP 739 (fAld 0) := rfl
set_option maxRecDepth 100000 in
theorem k174_739 : lkp pt174 739 = iRI 742 (gtI 83) := rfl
set_option maxRecDepth 100000 in
theorem k174_742 : lkp pt174 742 = iP 743 (fK (.inl 1)) := rfl
set_option maxRecDepth 100000 in
theorem k174_743 : lkp pt174 743 = iP 744 (f2I (fun x y => x - y)) := rfl
set_option maxRecDepth 100000 in
theorem k174_744 : lkp pt174 744 = iRJ 745 qAJ := rfl
set_option maxRecDepth 100000 in
theorem k174_745 : lkp pt174 745 = iW 748 (ptJ 77) := rfl
set_option maxRecDepth 100000 in
theorem k174_748 : lkp pt174 748 = iP 749 (fAld 0) := rfl
set_option maxRecDepth 100000 in
theorem k174_749 : lkp pt174 749 = iP 750 fDup := rfl
set_option maxRecDepth 100000 in
theorem k174_750 : lkp pt174 750 = iRI 753 (gtI 78) := rfl
set_option maxRecDepth 100000 in
theorem k174_753 : lkp pt174 753 = iP 754 (fK (.inl 1)) := rfl
set_option maxRecDepth 100000 in
theorem k174_754 : lkp pt174 754 = iP 755 (f2I (fun x y => x + y)) := rfl
set_option maxRecDepth 100000 in
theorem k174_755 : lkp pt174 755 = iW 758 (ptI 78) := rfl
set_option maxRecDepth 100000 in
theorem k174_758 : lkp pt174 758 = iP 1056 fGo := rfl
set_option maxRecDepth 100000 in
theorem k174_761 : lkp pt174 761 = iP 762 (fAld 0) := rfl
set_option maxRecDepth 100000 in
theorem k174_762 : lkp pt174 762 = iP 763 (fAld 0) := rfl
set_option maxRecDepth 100000 in
theorem k174_763 : lkp pt174 763 = iP 764 (fAld 0) := rfl
set_option maxRecDepth 100000 in
theorem k174_764 : lkp pt174 764 = iRR 767 (gtR 84) := rfl
set_option maxRecDepth 100000 in
theorem k174_767 : lkp pt174 767 = iP 768 (fAld 0) := rfl
set_option maxRecDepth 100000 in
theorem k174_768 : lkp pt174 768 = iRI 771 (gtI 83) := rfl
set_option maxRecDepth 100000 in
theorem k174_771 : lkp pt174 771 = iP 772 (fK (.inl 1)) := rfl
set_option maxRecDepth 100000 in
theorem k174_772 : lkp pt174 772 = iP 773 (f2I (fun x y => x - y)) := rfl
set_option maxRecDepth 100000 in
theorem k174_773 : lkp pt174 773 = iRI 774 qAI := rfl
set_option maxRecDepth 100000 in
theorem k174_774 : lkp pt174 774 = iP 776 (fK (.inl 8)) := rfl
set_option maxRecDepth 100000 in
theorem k174_776 : lkp pt174 776 = iCK 779 12 176 5 3 1 := rfl
set_option maxRecDepth 100000 in
theorem k174_779 : lkp pt174 779 = iW 782 (ptI 78) := rfl
set_option maxRecDepth 100000 in
theorem k174_782 : lkp pt174 782 = iP 1056 fGo := rfl
set_option maxRecDepth 100000 in
theorem k174_785 : lkp pt174 785 = iP 786 (fAld 0) := rfl
set_option maxRecDepth 100000 in
theorem k174_786 : lkp pt174 786 = iP 787 fDup := rfl
set_option maxRecDepth 100000 in
theorem k174_787 : lkp pt174 787 = iRI 790 (gtI 83) := rfl
set_option maxRecDepth 100000 in
theorem k174_790 : lkp pt174 790 = iP 791 (fK (.inl 1)) := rfl
set_option maxRecDepth 100000 in
theorem k174_791 : lkp pt174 791 = iP 792 (f2I (fun x y => x - y)) := rfl
set_option maxRecDepth 100000 in
theorem k174_792 : lkp pt174 792 = iW 795 (ptI 83) := rfl
set_option maxRecDepth 100000 in
theorem k174_795 : lkp pt174 795 = iP 797 (fIld 4) := rfl
set_option maxRecDepth 100000 in
theorem k174_797 : lkp pt174 797 = iP 798 (fK (.inl 2)) := rfl
set_option maxRecDepth 100000 in
theorem k174_798 : lkp pt174 798 = iB 801 854 (b2 (fun x y => decide (x ≤ y))) := rfl
set_option maxRecDepth 100000 in
theorem k174_801 : lkp pt174 801 = iP 802 (fAld 0) := rfl
set_option maxRecDepth 100000 in
theorem k174_802 : lkp pt174 802 = iRR 805 (gtR 88) := rfl
set_option maxRecDepth 100000 in
theorem k174_805 : lkp pt174 805 = iP 806 (fAld 0) := rfl
set_option maxRecDepth 100000 in
theorem k174_806 : lkp pt174 806 = iRI 809 (gtI 83) := rfl
set_option maxRecDepth 100000 in
theorem k174_809 : lkp pt174 809 = iRJ 810 qAJ := rfl
set_option maxRecDepth 100000 in
theorem k174_810 : lkp pt174 810 = iP 812 (fLst 7) := rfl
set_option maxRecDepth 100000 in
theorem k174_812 : lkp pt174 812 = iP 813 (fAld 0) := rfl
set_option maxRecDepth 100000 in
theorem k174_813 : lkp pt174 813 = iP 815 (fIld 4) := rfl
set_option maxRecDepth 100000 in
theorem k174_815 : lkp pt174 815 = iP 816 (fK (.inl 3)) := rfl
set_option maxRecDepth 100000 in
theorem k174_816 : lkp pt174 816 = iB 819 832 (b2 (fun x y => decide (x ≠ y))) := rfl
set_option maxRecDepth 100000 in
theorem k174_819 : lkp pt174 819 = iP 821 (fJld 7) := rfl
set_option maxRecDepth 100000 in
theorem k174_821 : lkp pt174 821 = iP 822 (fAld 0) := rfl
set_option maxRecDepth 100000 in
theorem k174_822 : lkp pt174 822 = iRJ 825 (gtJ 77) := rfl
set_option maxRecDepth 100000 in
theorem k174_825 : lkp pt174 825 = iP 826 fLcmp := rfl
set_option maxRecDepth 100000 in
theorem k174_826 : lkp pt174 826 = iB 829 847 (b1 (fun x => decide (x ≤ 0))) := rfl
set_option maxRecDepth 100000 in
theorem k174_829 : lkp pt174 829 = iP 842 fGo := rfl
set_option maxRecDepth 100000 in
theorem k174_832 : lkp pt174 832 = iP 834 (fJld 7) := rfl
set_option maxRecDepth 100000 in
theorem k174_834 : lkp pt174 834 = iP 835 (fAld 0) := rfl
set_option maxRecDepth 100000 in
theorem k174_835 : lkp pt174 835 = iRJ 838 (gtJ 77) := rfl
set_option maxRecDepth 100000 in
theorem k174_838 : lkp pt174 838 = iP 839 fLcmp := rfl
set_option maxRecDepth 100000 in
theorem k174_839 : lkp pt174 839 = iB 842 847 (b1 (fun x => decide (0 ≤ x))) := rfl
set_option maxRecDepth 100000 in
theorem k174_842 : lkp pt174 842 = iP 844 (fJld 7) := rfl
set_option maxRecDepth 100000 in
theorem k174_844 : lkp pt174 844 = iP 851 fGo := rfl
set_option maxRecDepth 100000 in
theorem k174_847 : lkp pt174 847 = iP 848 (fAld 0) := rfl
set_option maxRecDepth 100000 in
theorem k174_848 : lkp pt174 848 = iRJ 851 (gtJ 77) := rfl
set_option maxRecDepth 100000 in
theorem k174_851 : lkp pt174 851 = iW 854 (ptJ 77) := rfl
set_option maxRecDepth 100000 in
theorem k174_854 : lkp pt174 854 = iP 855 (fAld 0) := rfl
set_option maxRecDepth 100000 in
theorem k174_855 : lkp pt174 855 = iP 856 fDup := rfl
set_option maxRecDepth 100000 in
theorem k174_856 : lkp pt174 856 = iRI 859 (gtI 78) := rfl
set_option maxRecDepth 100000 in
theorem k174_859 : lkp pt174 859 = iP 860 (fK (.inl 1)) := rfl
set_option maxRecDepth 100000 in
theorem k174_860 : lkp pt174 860 = iP 861 (f2I (fun x y => x + y)) := rfl
set_option maxRecDepth 100000 in
theorem k174_861 : lkp pt174 861 = iW 864 (ptI 78) := rfl
set_option maxRecDepth 100000 in
theorem k174_864 : lkp pt174 864 = iP 1056 fGo := rfl
set_option maxRecDepth 100000 in
theorem k174_867 : lkp pt174 867 = iP 868 (fAld 0) := rfl
set_option maxRecDepth 100000 in
theorem k174_868 : lkp pt174 868 = iCK 871 12 177 1 1 1 := rfl
set_option maxRecDepth 100000 in
theorem k174_871 : lkp pt174 871 = iB 874 878 (b1 (fun x => decide (x ≠ 0))) := rfl
set_option maxRecDepth 100000 in
theorem k174_874 : lkp pt174 874 = iP 877 (fK (.inl (-1000004))) := rfl
set_option maxRecDepth 100000 in
theorem k174_877 : lkp pt174 877 = iRet rI := rfl
set_option maxRecDepth 100000 in
theorem k174_878 : lkp pt174 878 = iP 879 (fAld 0) := rfl
set_option maxRecDepth 100000 in
theorem k174_879 : lkp pt174 879 = iP 880 fDup := rfl
set_option maxRecDepth 100000 in
theorem k174_880 : lkp pt174 880 = iRJ 883 (gtJ 77) := rfl
set_option maxRecDepth 100000 in
theorem k174_883 : lkp pt174 883 = iP 884 (fK (.inr (.inl 1))) := rfl
set_option maxRecDepth 100000 in
theorem k174_884 : lkp pt174 884 = iP 885 (f2J (fun x y => x + y)) := rfl
set_option maxRecDepth 100000 in
theorem k174_885 : lkp pt174 885 = iW 888 (ptJ 77) := rfl
set_option maxRecDepth 100000 in
theorem k174_888 : lkp pt174 888 = iP 889 (fAld 0) := rfl
set_option maxRecDepth 100000 in
theorem k174_889 : lkp pt174 889 = iP 891 (fIld 6) := rfl
set_option maxRecDepth 100000 in
theorem k174_891 : lkp pt174 891 = iP 892 (fK (.inl 0)) := rfl
set_option maxRecDepth 100000 in
theorem k174_892 : lkp pt174 892 = iCK 895 12 175 5 3 1 := rfl
set_option maxRecDepth 100000 in
theorem k174_895 : lkp pt174 895 = iP 897 (fIst 7) := rfl
set_option maxRecDepth 100000 in
theorem k174_897 : lkp pt174 897 = iP 898 (fAld 0) := rfl
set_option maxRecDepth 100000 in
theorem k174_898 : lkp pt174 898 = iP 900 (fIld 6) := rfl
set_option maxRecDepth 100000 in
theorem k174_900 : lkp pt174 900 = iP 901 (fK (.inl 1)) := rfl
set_option maxRecDepth 100000 in
theorem k174_901 : lkp pt174 901 = iCK 904 12 175 5 3 1 := rfl
set_option maxRecDepth 100000 in
theorem k174_904 : lkp pt174 904 = iP 906 (fIst 8) := rfl
set_option maxRecDepth 100000 in
theorem k174_906 : lkp pt174 906 = iP 907 (fAld 0) := rfl
set_option maxRecDepth 100000 in
theorem k174_907 : lkp pt174 907 = iRR 910 (gtR 84) := rfl
set_option maxRecDepth 100000 in
theorem k174_910 : lkp pt174 910 = iP 911 (fAld 0) := rfl
set_option maxRecDepth 100000 in
theorem k174_911 : lkp pt174 911 = iRI 914 (gtI 83) := rfl
set_option maxRecDepth 100000 in
theorem k174_914 : lkp pt174 914 = iP 916 (fIld 6) := rfl
set_option maxRecDepth 100000 in
theorem k174_916 : lkp pt174 916 = iW 917 wAI := rfl
set_option maxRecDepth 100000 in
theorem k174_917 : lkp pt174 917 = iP 918 (fAld 0) := rfl
set_option maxRecDepth 100000 in
theorem k174_918 : lkp pt174 918 = iRR 921 (gtR 89) := rfl
set_option maxRecDepth 100000 in
theorem k174_921 : lkp pt174 921 = iP 923 (fK (.inl 7)) := rfl
set_option maxRecDepth 100000 in
theorem k174_923 : lkp pt174 923 = iP 924 (fAld 0) := rfl
set_option maxRecDepth 100000 in
theorem k174_924 : lkp pt174 924 = iRI 927 (gtI 83) := rfl
set_option maxRecDepth 100000 in
theorem k174_927 : lkp pt174 927 = iP 928 (f2I (fun x y => x * y)) := rfl
set_option maxRecDepth 100000 in
theorem k174_928 : lkp pt174 928 = iP 929 (fAld 0) := rfl
set_option maxRecDepth 100000 in
theorem k174_929 : lkp pt174 929 = iRI 932 (gtI 79) := rfl
set_option maxRecDepth 100000 in
theorem k174_932 : lkp pt174 932 = iW 933 wAI := rfl
set_option maxRecDepth 100000 in
theorem k174_933 : lkp pt174 933 = iP 934 (fAld 0) := rfl
set_option maxRecDepth 100000 in
theorem k174_934 : lkp pt174 934 = iRR 937 (gtR 89) := rfl
set_option maxRecDepth 100000 in
theorem k174_937 : lkp pt174 937 = iP 939 (fK (.inl 7)) := rfl
set_option maxRecDepth 100000 in
theorem k174_939 : lkp pt174 939 = iP 940 (fAld 0) := rfl
set_option maxRecDepth 100000 in
theorem k174_940 : lkp pt174 940 = iRI 943 (gtI 83) := rfl
set_option maxRecDepth 100000 in
theorem k174_943 : lkp pt174 943 = iP 944 (f2I (fun x y => x * y)) := rfl
set_option maxRecDepth 100000 in
theorem k174_944 : lkp pt174 944 = iP 945 (fK (.inl 1)) := rfl
set_option maxRecDepth 100000 in
theorem k174_945 : lkp pt174 945 = iP 946 (f2I (fun x y => x + y)) := rfl
set_option maxRecDepth 100000 in
theorem k174_946 : lkp pt174 946 = iP 947 (fAld 0) := rfl
set_option maxRecDepth 100000 in
theorem k174_947 : lkp pt174 947 = iRI 950 (gtI 80) := rfl
set_option maxRecDepth 100000 in
theorem k174_950 : lkp pt174 950 = iW 951 wAI := rfl
set_option maxRecDepth 100000 in
theorem k174_951 : lkp pt174 951 = iP 952 (fAld 0) := rfl
set_option maxRecDepth 100000 in
theorem k174_952 : lkp pt174 952 = iRR 955 (gtR 89) := rfl
set_option maxRecDepth 100000 in
theorem k174_955 : lkp pt174 955 = iP 957 (fK (.inl 7)) := rfl
set_option maxRecDepth 100000 in
theorem k174_957 : lkp pt174 957 = iP 958 (fAld 0) := rfl
set_option maxRecDepth 100000 in
theorem k174_958 : lkp pt174 958 = iRI 961 (gtI 83) := rfl
set_option maxRecDepth 100000 in
theorem k174_961 : lkp pt174 961 = iP 962 (f2I (fun x y => x * y)) := rfl
set_option maxRecDepth 100000 in
theorem k174_962 : lkp pt174 962 = iP 963 (fK (.inl 2)) := rfl
set_option maxRecDepth 100000 in
theorem k174_963 : lkp pt174 963 = iP 964 (f2I (fun x y => x + y)) := rfl
set_option maxRecDepth 100000 in
theorem k174_964 : lkp pt174 964 = iP 965 (fAld 0) := rfl
set_option maxRecDepth 100000 in
theorem k174_965 : lkp pt174 965 = iRI 968 (gtI 81) := rfl
set_option maxRecDepth 100000 in
theorem k174_968 : lkp pt174 968 = iW 969 wAI := rfl
set_option maxRecDepth 100000 in
theorem k174_969 : lkp pt174 969 = iP 970 (fK (.inl 0)) := rfl
set_option maxRecDepth 100000 in
theorem k174_970 : lkp pt174 970 = iP 972 (fIst 9) := rfl
set_option maxRecDepth 100000 in
theorem k174_972 : lkp pt174 972 = iP 974 (fIld 9) := rfl
set_option maxRecDepth 100000 in
theorem k174_974 : lkp pt174 974 = iP 975 (fK (.inl 3)) := rfl
set_option maxRecDepth 100000 in
theorem k174_975 : lkp pt174 975 = iB 978 1008 (b2 (fun x y => decide (y ≤ x))) := rfl
set_option maxRecDepth 100000 in
theorem k174_978 : lkp pt174 978 = iP 979 (fAld 0) := rfl
set_option maxRecDepth 100000 in
theorem k174_979 : lkp pt174 979 = iRR 982 (gtR 89) := rfl
set_option maxRecDepth 100000 in
theorem k174_982 : lkp pt174 982 = iP 984 (fK (.inl 7)) := rfl
set_option maxRecDepth 100000 in
theorem k174_984 : lkp pt174 984 = iP 985 (fAld 0) := rfl
set_option maxRecDepth 100000 in
theorem k174_985 : lkp pt174 985 = iRI 988 (gtI 83) := rfl
set_option maxRecDepth 100000 in
theorem k174_988 : lkp pt174 988 = iP 989 (f2I (fun x y => x * y)) := rfl
set_option maxRecDepth 100000 in
theorem k174_989 : lkp pt174 989 = iP 990 (fK (.inl 3)) := rfl
set_option maxRecDepth 100000 in
theorem k174_990 : lkp pt174 990 = iP 991 (f2I (fun x y => x + y)) := rfl
set_option maxRecDepth 100000 in
theorem k174_991 : lkp pt174 991 = iP 993 (fIld 9) := rfl
set_option maxRecDepth 100000 in
theorem k174_993 : lkp pt174 993 = iP 994 (f2I (fun x y => x + y)) := rfl
set_option maxRecDepth 100000 in
theorem k174_994 : lkp pt174 994 = iP 995 (fAld 0) := rfl
set_option maxRecDepth 100000 in
theorem k174_995 : lkp pt174 995 = iRR 998 (gtR 82) := rfl
set_option maxRecDepth 100000 in
theorem k174_998 : lkp pt174 998 = iP 1000 (fIld 9) := rfl
set_option maxRecDepth 100000 in
theorem k174_1000 : lkp pt174 1000 = iRI 1001 qAI := rfl
set_option maxRecDepth 100000 in
theorem k174_1001 : lkp pt174 1001 = iW 1002 wAI := rfl
set_option maxRecDepth 100000 in
theorem k174_1002 : lkp pt174 1002 = iP 1005 (fInc 9 1) := rfl
set_option maxRecDepth 100000 in
theorem k174_1005 : lkp pt174 1005 = iP 972 fGo := rfl
set_option maxRecDepth 100000 in
theorem k174_1008 : lkp pt174 1008 = iP 1009 (fAld 0) := rfl
set_option maxRecDepth 100000 in
theorem k174_1009 : lkp pt174 1009 = iP 1010 fDup := rfl
set_option maxRecDepth 100000 in
theorem k174_1010 : lkp pt174 1010 = iRI 1013 (gtI 83) := rfl
set_option maxRecDepth 100000 in
theorem k174_1013 : lkp pt174 1013 = iP 1014 (fK (.inl 1)) := rfl
set_option maxRecDepth 100000 in
theorem k174_1014 : lkp pt174 1014 = iP 1015 (f2I (fun x y => x + y)) := rfl
set_option maxRecDepth 100000 in
theorem k174_1015 : lkp pt174 1015 = iW 1018 (ptI 83) := rfl
set_option maxRecDepth 100000 in
theorem k174_1018 : lkp pt174 1018 = iP 1019 (fAld 0) := rfl
set_option maxRecDepth 100000 in
theorem k174_1019 : lkp pt174 1019 = iRR 1022 (gtR 54) := rfl
set_option maxRecDepth 100000 in
theorem k174_1022 : lkp pt174 1022 = iP 1024 (fIld 6) := rfl
set_option maxRecDepth 100000 in
theorem k174_1024 : lkp pt174 1024 = iRI 1025 qAI := rfl
set_option maxRecDepth 100000 in
theorem k174_1025 : lkp pt174 1025 = iP 1027 (fIst 5) := rfl
set_option maxRecDepth 100000 in
theorem k174_1027 : lkp pt174 1027 = iP 1028 (fAld 0) := rfl
set_option maxRecDepth 100000 in
theorem k174_1028 : lkp pt174 1028 = iP 1030 (fK (.inl 24)) := rfl
set_option maxRecDepth 100000 in
theorem k174_1030 : lkp pt174 1030 = iP 1032 (fIld 5) := rfl
set_option maxRecDepth 100000 in
theorem k174_1032 : lkp pt174 1032 = iP 1033 (f2I (fun x y => x * y)) := rfl
set_option maxRecDepth 100000 in
theorem k174_1033 : lkp pt174 1033 = iW 1036 (ptI 78) := rfl
set_option maxRecDepth 100000 in
theorem k174_1036 : lkp pt174 1036 = iP 1037 (fAld 0) := rfl
set_option maxRecDepth 100000 in
theorem k174_1037 : lkp pt174 1037 = iP 1039 (fIld 7) := rfl
set_option maxRecDepth 100000 in
theorem k174_1039 : lkp pt174 1039 = iW 1042 (ptI 79) := rfl
set_option maxRecDepth 100000 in
theorem k174_1042 : lkp pt174 1042 = iP 1043 (fAld 0) := rfl
set_option maxRecDepth 100000 in
theorem k174_1043 : lkp pt174 1043 = iP 1045 (fIld 8) := rfl
set_option maxRecDepth 100000 in
theorem k174_1045 : lkp pt174 1045 = iW 1048 (ptI 80) := rfl
set_option maxRecDepth 100000 in
theorem k174_1048 : lkp pt174 1048 = iP 1049 (fAld 0) := rfl
set_option maxRecDepth 100000 in
theorem k174_1049 : lkp pt174 1049 = iP 1050 (fK (.inl 0)) := rfl
set_option maxRecDepth 100000 in
theorem k174_1050 : lkp pt174 1050 = iW 1053 (ptI 81) := rfl
set_option maxRecDepth 100000 in
theorem k174_1053 : lkp pt174 1053 = iP 1056 fGo := rfl
set_option maxRecDepth 100000 in
theorem k174_1056 : lkp pt174 1056 = iP 41 fGo := rfl
set_option maxRecDepth 100000 in
theorem k174_1059 : lkp pt174 1059 = iP 1060 (fAld 0) := rfl
set_option maxRecDepth 100000 in
theorem k174_1060 : lkp pt174 1060 = iRJ 1063 (gtJ 77) := rfl
set_option maxRecDepth 100000 in
theorem k174_1063 : lkp pt174 1063 = iP 1064 fL2i := rfl
set_option maxRecDepth 100000 in
theorem k174_1064 : lkp pt174 1064 = iRet rI := rfl
set_option maxRecDepth 100000 in
theorem b174_0 {G : AG} (hG : FIX G) (x0 : Nat) (x1 : Int32) (x2 : Int32) (x3 : Int32) (x4 : Int32) (H : Hp) : G 174 0 [some (.inr (.inr x0)), some (.inl x1), some (.inl x2), some (.inl x3), some (.inl x4), none, none, none, none, none] [] H = ((hpI H x0 76 0).bind fun H1 => (hpJ H1 x0 77 0).bind fun H2 => (hpI H2 x0 78 ((24 * x1))).bind fun H3 => (hpI H3 x0 79 x2).bind fun H4 => (hpI H4 x0 80 x3).bind fun H5 => (hpI H5 x0 81 0).bind fun H6 => (hpI H6 x0 83 0).bind fun H7 => G 174 41 [some (.inr (.inr x0)), some (.inl x1), some (.inl x2), some (.inl x3), some (.inl x4), some (.inl x1), none, none, none, none] [] H7) := by
  refine Eq.trans (e1 hG PT_174 k174_0 _ _ _) ?_
  show G 174 1 [some (.inr (.inr x0)), some (.inl x1), some (.inl x2), some (.inl x3), some (.inl x4), none, none, none, none, none] [.inr (.inr x0)] H = _
  refine Eq.trans (e1 hG PT_174 k174_1 _ _ _) ?_
  show G 174 2 [some (.inr (.inr x0)), some (.inl x1), some (.inl x2), some (.inl x3), some (.inl x4), none, none, none, none, none] [.inl 0, .inr (.inr x0)] H = _
  refine Eq.trans (e1 hG PT_174 k174_2 _ _ _) ?_
  refine bdc fun H1 => ?_
  show G 174 5 [some (.inr (.inr x0)), some (.inl x1), some (.inl x2), some (.inl x3), some (.inl x4), none, none, none, none, none] [] H1 = _
  refine Eq.trans (e1 hG PT_174 k174_5 _ _ _) ?_
  show G 174 6 [some (.inr (.inr x0)), some (.inl x1), some (.inl x2), some (.inl x3), some (.inl x4), none, none, none, none, none] [.inr (.inr x0)] H1 = _
  refine Eq.trans (e1 hG PT_174 k174_6 _ _ _) ?_
  show G 174 7 [some (.inr (.inr x0)), some (.inl x1), some (.inl x2), some (.inl x3), some (.inl x4), none, none, none, none, none] [.inr (.inl 0), .inr (.inr x0)] H1 = _
  refine Eq.trans (e1 hG PT_174 k174_7 _ _ _) ?_
  refine bdc fun H2 => ?_
  show G 174 10 [some (.inr (.inr x0)), some (.inl x1), some (.inl x2), some (.inl x3), some (.inl x4), none, none, none, none, none] [] H2 = _
  refine Eq.trans (e1 hG PT_174 k174_10 _ _ _) ?_
  show G 174 11 [some (.inr (.inr x0)), some (.inl x1), some (.inl x2), some (.inl x3), some (.inl x4), none, none, none, none, none] [.inr (.inr x0)] H2 = _
  refine Eq.trans (e1 hG PT_174 k174_11 _ _ _) ?_
  show G 174 13 [some (.inr (.inr x0)), some (.inl x1), some (.inl x2), some (.inl x3), some (.inl x4), none, none, none, none, none] [.inl 24, .inr (.inr x0)] H2 = _
  refine Eq.trans (e1 hG PT_174 k174_13 _ _ _) ?_
  show G 174 14 [some (.inr (.inr x0)), some (.inl x1), some (.inl x2), some (.inl x3), some (.inl x4), none, none, none, none, none] [.inl x1, .inl 24, .inr (.inr x0)] H2 = _
  refine Eq.trans (e1 hG PT_174 k174_14 _ _ _) ?_
  show G 174 15 [some (.inr (.inr x0)), some (.inl x1), some (.inl x2), some (.inl x3), some (.inl x4), none, none, none, none, none] [.inl (24 * x1), .inr (.inr x0)] H2 = _
  refine Eq.trans (e1 hG PT_174 k174_15 _ _ _) ?_
  refine bdc fun H3 => ?_
  show G 174 18 [some (.inr (.inr x0)), some (.inl x1), some (.inl x2), some (.inl x3), some (.inl x4), none, none, none, none, none] [] H3 = _
  refine Eq.trans (e1 hG PT_174 k174_18 _ _ _) ?_
  show G 174 19 [some (.inr (.inr x0)), some (.inl x1), some (.inl x2), some (.inl x3), some (.inl x4), none, none, none, none, none] [.inl x1] H3 = _
  refine Eq.trans (e1 hG PT_174 k174_19 _ _ _) ?_
  show G 174 21 [some (.inr (.inr x0)), some (.inl x1), some (.inl x2), some (.inl x3), some (.inl x4), some (.inl x1), none, none, none, none] [] H3 = _
  refine Eq.trans (e1 hG PT_174 k174_21 _ _ _) ?_
  show G 174 22 [some (.inr (.inr x0)), some (.inl x1), some (.inl x2), some (.inl x3), some (.inl x4), some (.inl x1), none, none, none, none] [.inr (.inr x0)] H3 = _
  refine Eq.trans (e1 hG PT_174 k174_22 _ _ _) ?_
  show G 174 23 [some (.inr (.inr x0)), some (.inl x1), some (.inl x2), some (.inl x3), some (.inl x4), some (.inl x1), none, none, none, none] [.inl x2, .inr (.inr x0)] H3 = _
  refine Eq.trans (e1 hG PT_174 k174_23 _ _ _) ?_
  refine bdc fun H4 => ?_
  show G 174 26 [some (.inr (.inr x0)), some (.inl x1), some (.inl x2), some (.inl x3), some (.inl x4), some (.inl x1), none, none, none, none] [] H4 = _
  refine Eq.trans (e1 hG PT_174 k174_26 _ _ _) ?_
  show G 174 27 [some (.inr (.inr x0)), some (.inl x1), some (.inl x2), some (.inl x3), some (.inl x4), some (.inl x1), none, none, none, none] [.inr (.inr x0)] H4 = _
  refine Eq.trans (e1 hG PT_174 k174_27 _ _ _) ?_
  show G 174 28 [some (.inr (.inr x0)), some (.inl x1), some (.inl x2), some (.inl x3), some (.inl x4), some (.inl x1), none, none, none, none] [.inl x3, .inr (.inr x0)] H4 = _
  refine Eq.trans (e1 hG PT_174 k174_28 _ _ _) ?_
  refine bdc fun H5 => ?_
  show G 174 31 [some (.inr (.inr x0)), some (.inl x1), some (.inl x2), some (.inl x3), some (.inl x4), some (.inl x1), none, none, none, none] [] H5 = _
  refine Eq.trans (e1 hG PT_174 k174_31 _ _ _) ?_
  show G 174 32 [some (.inr (.inr x0)), some (.inl x1), some (.inl x2), some (.inl x3), some (.inl x4), some (.inl x1), none, none, none, none] [.inr (.inr x0)] H5 = _
  refine Eq.trans (e1 hG PT_174 k174_32 _ _ _) ?_
  show G 174 33 [some (.inr (.inr x0)), some (.inl x1), some (.inl x2), some (.inl x3), some (.inl x4), some (.inl x1), none, none, none, none] [.inl 0, .inr (.inr x0)] H5 = _
  refine Eq.trans (e1 hG PT_174 k174_33 _ _ _) ?_
  refine bdc fun H6 => ?_
  show G 174 36 [some (.inr (.inr x0)), some (.inl x1), some (.inl x2), some (.inl x3), some (.inl x4), some (.inl x1), none, none, none, none] [] H6 = _
  refine Eq.trans (e1 hG PT_174 k174_36 _ _ _) ?_
  show G 174 37 [some (.inr (.inr x0)), some (.inl x1), some (.inl x2), some (.inl x3), some (.inl x4), some (.inl x1), none, none, none, none] [.inr (.inr x0)] H6 = _
  refine Eq.trans (e1 hG PT_174 k174_37 _ _ _) ?_
  show G 174 38 [some (.inr (.inr x0)), some (.inl x1), some (.inl x2), some (.inl x3), some (.inl x4), some (.inl x1), none, none, none, none] [.inl 0, .inr (.inr x0)] H6 = _
  refine Eq.trans (e1 hG PT_174 k174_38 _ _ _) ?_
  refine bdc fun H7 => ?_
  rfl
set_option maxRecDepth 100000 in
theorem b174_41 {G : AG} (hG : FIX G) (x0 : Nat) (x1 : Int32) (x2 : Int32) (x3 : Int32) (x4 : Int32) (x5 : Int32) (o6 : Option AV) (o7 : Option AV) (o8 : Option AV) (o9 : Option AV) (H : Hp) : G 174 41 [some (.inr (.inr x0)), some (.inl x1), some (.inl x2), some (.inl x3), some (.inl x4), some (.inl x5), o6, o7, o8, o9] [] H = ((hgI H x0 78).bind fun i1 => (hgR H x0 51).bind fun r2 => (hAI H r2 x5).bind fun i3 => bif decide ((i1 : Int32) < (((24 * x5) + i3) : Int32)) then G 174 68 [some (.inr (.inr x0)), some (.inl x1), some (.inl x2), some (.inl x3), some (.inl x4), some (.inl x5), o6, o7, o8, o9] [] H else (hgI H x0 83).bind fun i4 => bif decide ((i4 : Int32) ≤ 0) then (hgJ H x0 77).bind fun j5 => some (some (.inl ((j5).toInt32)), H) else G 174 68 [some (.inr (.inr x0)), some (.inl x1), some (.inl x2), some (.inl x3), some (.inl x4), some (.inl x5), o6, o7, o8, o9] [] H) := by
  refine Eq.trans (e1 hG PT_174 k174_41 _ _ _) ?_
  show G 174 42 [some (.inr (.inr x0)), some (.inl x1), some (.inl x2), some (.inl x3), some (.inl x4), some (.inl x5), o6, o7, o8, o9] [.inr (.inr x0)] H = _
  refine Eq.trans (e1 hG PT_174 k174_42 _ _ _) ?_
  refine bdc fun i1 => ?_
  show G 174 45 [some (.inr (.inr x0)), some (.inl x1), some (.inl x2), some (.inl x3), some (.inl x4), some (.inl x5), o6, o7, o8, o9] [.inl i1] H = _
  refine Eq.trans (e1 hG PT_174 k174_45 _ _ _) ?_
  show G 174 47 [some (.inr (.inr x0)), some (.inl x1), some (.inl x2), some (.inl x3), some (.inl x4), some (.inl x5), o6, o7, o8, o9] [.inl 24, .inl i1] H = _
  refine Eq.trans (e1 hG PT_174 k174_47 _ _ _) ?_
  show G 174 49 [some (.inr (.inr x0)), some (.inl x1), some (.inl x2), some (.inl x3), some (.inl x4), some (.inl x5), o6, o7, o8, o9] [.inl x5, .inl 24, .inl i1] H = _
  refine Eq.trans (e1 hG PT_174 k174_49 _ _ _) ?_
  show G 174 50 [some (.inr (.inr x0)), some (.inl x1), some (.inl x2), some (.inl x3), some (.inl x4), some (.inl x5), o6, o7, o8, o9] [.inl (24 * x5), .inl i1] H = _
  refine Eq.trans (e1 hG PT_174 k174_50 _ _ _) ?_
  show G 174 51 [some (.inr (.inr x0)), some (.inl x1), some (.inl x2), some (.inl x3), some (.inl x4), some (.inl x5), o6, o7, o8, o9] [.inr (.inr x0), .inl (24 * x5), .inl i1] H = _
  refine Eq.trans (e1 hG PT_174 k174_51 _ _ _) ?_
  refine bdc fun r2 => ?_
  show G 174 54 [some (.inr (.inr x0)), some (.inl x1), some (.inl x2), some (.inl x3), some (.inl x4), some (.inl x5), o6, o7, o8, o9] [.inr (.inr r2), .inl (24 * x5), .inl i1] H = _
  refine Eq.trans (e1 hG PT_174 k174_54 _ _ _) ?_
  show G 174 56 [some (.inr (.inr x0)), some (.inl x1), some (.inl x2), some (.inl x3), some (.inl x4), some (.inl x5), o6, o7, o8, o9] [.inl x5, .inr (.inr r2), .inl (24 * x5), .inl i1] H = _
  refine Eq.trans (e1 hG PT_174 k174_56 _ _ _) ?_
  refine bdc fun i3 => ?_
  show G 174 57 [some (.inr (.inr x0)), some (.inl x1), some (.inl x2), some (.inl x3), some (.inl x4), some (.inl x5), o6, o7, o8, o9] [.inl i3, .inl (24 * x5), .inl i1] H = _
  refine Eq.trans (e1 hG PT_174 k174_57 _ _ _) ?_
  show G 174 58 [some (.inr (.inr x0)), some (.inl x1), some (.inl x2), some (.inl x3), some (.inl x4), some (.inl x5), o6, o7, o8, o9] [.inl ((24 * x5) + i3), .inl i1] H = _
  refine Eq.trans (e1 hG PT_174 k174_58 _ _ _) ?_
  refine bfc ?_ ?_
  · rfl
  · show G 174 61 [some (.inr (.inr x0)), some (.inl x1), some (.inl x2), some (.inl x3), some (.inl x4), some (.inl x5), o6, o7, o8, o9] [] H = _
    refine Eq.trans (e1 hG PT_174 k174_61 _ _ _) ?_
    show G 174 62 [some (.inr (.inr x0)), some (.inl x1), some (.inl x2), some (.inl x3), some (.inl x4), some (.inl x5), o6, o7, o8, o9] [.inr (.inr x0)] H = _
    refine Eq.trans (e1 hG PT_174 k174_62 _ _ _) ?_
    refine bdc fun i4 => ?_
    show G 174 65 [some (.inr (.inr x0)), some (.inl x1), some (.inl x2), some (.inl x3), some (.inl x4), some (.inl x5), o6, o7, o8, o9] [.inl i4] H = _
    refine Eq.trans (e1 hG PT_174 k174_65 _ _ _) ?_
    refine bfc ?_ ?_
    · show G 174 1059 [some (.inr (.inr x0)), some (.inl x1), some (.inl x2), some (.inl x3), some (.inl x4), some (.inl x5), o6, o7, o8, o9] [] H = _
      refine Eq.trans (e1 hG PT_174 k174_1059 _ _ _) ?_
      show G 174 1060 [some (.inr (.inr x0)), some (.inl x1), some (.inl x2), some (.inl x3), some (.inl x4), some (.inl x5), o6, o7, o8, o9] [.inr (.inr x0)] H = _
      refine Eq.trans (e1 hG PT_174 k174_1060 _ _ _) ?_
      refine bdc fun j5 => ?_
      show G 174 1063 [some (.inr (.inr x0)), some (.inl x1), some (.inl x2), some (.inl x3), some (.inl x4), some (.inl x5), o6, o7, o8, o9] [.inr (.inl j5)] H = _
      refine Eq.trans (e1 hG PT_174 k174_1063 _ _ _) ?_
      show G 174 1064 [some (.inr (.inr x0)), some (.inl x1), some (.inl x2), some (.inl x3), some (.inl x4), some (.inl x5), o6, o7, o8, o9] [.inl (j5).toInt32] H = _
      exact e1 hG PT_174 k174_1064 _ _ _
    · rfl
set_option maxRecDepth 100000 in
theorem b174_68 {G : AG} (hG : FIX G) (x0 : Nat) (x1 : Int32) (x2 : Int32) (x3 : Int32) (x4 : Int32) (x5 : Int32) (o6 : Option AV) (o7 : Option AV) (o8 : Option AV) (o9 : Option AV) (H : Hp) : G 174 68 [some (.inr (.inr x0)), some (.inl x1), some (.inl x2), some (.inl x3), some (.inl x4), some (.inl x5), o6, o7, o8, o9] [] H = ((hgI H x0 78).bind fun i1 => (hgR H x0 51).bind fun r2 => (hAI H r2 x5).bind fun i3 => bif decide ((i1 : Int32) ≠ (((24 * x5) + i3) : Int32)) then (hgI H x0 78).bind fun i4 => (hgR H x0 52).bind fun r5 => (hAI H r5 i4).bind fun i6 => bif decide ((i6 : Int32) = Int32.ofInt 1) then (hgJ H x0 77).bind fun j100 => (hgR H x0 53).bind fun r101 => (hAI H r101 i4).bind fun i102 => (hpJ H x0 77 ((j100 + i102.toInt64))).bind fun H103 => (hgI H103 x0 78).bind fun i104 => (hpI H103 x0 78 ((i104 + 1))).bind fun H105 => G 174 1056 [some (.inr (.inr x0)), some (.inl x1), some (.inl x2), some (.inl x3), some (.inl x4), some (.inl x5), some (.inl i4), o7, o8, o9] [] H105 else bif decide ((i6 : Int32) = Int32.ofInt (1 + 1)) then G 174 867 [some (.inr (.inr x0)), some (.inl x1), some (.inl x2), some (.inl x3), some (.inl x4), some (.inl x5), some (.inl i4), o7, o8, o9] [] H else bif decide ((i6 : Int32) = Int32.ofInt ((1 + 1) + 1)) then bif Nat.beq (H.1 x0).1 12 then (G 175 0 [some (.inr (.inr x0)), some (.inl i4), some (.inl 0), none, none] [] H).bind fun u73 => (asI u73.1).bind fun i74 => bif decide ((i74 : Int32) ≠ 0) then bif Nat.beq (u73.2.1 x0).1 12 then (G 177 0 [some (.inr (.inr x0))] [] u73.2).bind fun u75 => (asI u75.1).bind fun i76 => bif decide ((i76 : Int32) ≠ 0) then (hgJ u75.2 x0 77).bind fun j77 => (hpJ u75.2 x0 77 ((j77 + 1))).bind fun H78 => (hgR H78 x0 84).bind fun r79 => (hgI H78 x0 83).bind fun i80 => (hSI H78 r79 i80 i4).bind fun H81 => (hgR H81 x0 85).bind fun r82 => (hgI H81 x0 83).bind fun i83 => (hSI H81 r82 i83 1).bind fun H84 => (hgR H84 x0 86).bind fun r85 => (hgI H84 x0 83).bind fun i86 => (hSI H84 r85 i86 i74).bind fun H87 => (hgI H87 x0 83).bind fun i88 => (hpI H87 x0 83 ((i88 + 1))).bind fun H89 => (hgR H89 x0 82).bind fun r90 => (hgI H89 x0 81).bind fun i91 => (hSI H89 r90 i91 1).bind fun H92 => (hgI H92 x0 81).bind fun i93 => (hpI H92 x0 81 ((i93 + 1))).bind fun H94 => (hgI H94 x0 78).bind fun i95 => (hpI H94 x0 78 ((i95 + 1))).bind fun H96 => G 174 1056 [some (.inr (.inr x0)), some (.inl x1), some (.inl x2), some (.inl x3), some (.inl x4), some (.inl x5), some (.inl i4), some (.inl i74), o8, o9] [] H96 else some (some (.inl ((-1000004))), u75.2) else none else bif Nat.beq (u73.2.1 x0).1 12 then (G 176 0 [some (.inr (.inr x0)), some (.inl i4), some (.inl 6), none, none] [] u73.2).bind fun u97 => (asI u97.1).bind fun i98 => (hpI u97.2 x0 78 ((i98 + 1))).bind fun H99 => G 174 1056 [some (.inr (.inr x0)), some (.inl x1), some (.inl x2), some (.inl x3), some (.inl x4), some (.inl x5), some (.inl i4), some (.inl i74), o8, o9] [] H99 else none else none else bif decide ((i6 : Int32) = Int32.ofInt (((1 + 1) + 1) + 1)) then G 174 867 [some (.inr (.inr x0)), some (.inl x1), some (.inl x2), some (.inl x3), some (.inl x4), some (.inl x5), some (.inl i4), o7, o8, o9] [] H else bif decide ((i6 : Int32) = Int32.ofInt ((((1 + 1) + 1) + 1) + 1)) then bif Nat.beq (H.1 x0).1 12 then (G 177 0 [some (.inr (.inr x0))] [] H).bind fun u60 => (asI u60.1).bind fun i61 => bif decide ((i61 : Int32) ≠ 0) then (hgJ u60.2 x0 77).bind fun j62 => (hpJ u60.2 x0 77 ((j62 + 1))).bind fun H63 => (hgR H63 x0 84).bind fun r64 => (hgI H63 x0 83).bind fun i65 => (hSI H63 r64 i65 i4).bind fun H66 => (hgR H66 x0 87).bind fun r67 => (hgI H66 x0 83).bind fun i68 => (hgJ H66 x0 77).bind fun j69 => (hSJ H66 r67 i68 j69).bind fun H70 => (hgI H70 x0 83).bind fun i71 => (hpI H70 x0 83 ((i71 + 1))).bind fun H72 => bif decide ((x4 : Int32) ≠ (1 : Int32)) then G 174 639 [some (.inr (.inr x0)), some (.inl x1), some (.inl x2), some (.inl x3), some (.inl x4), some (.inl x5), some (.inl i4), o7, o8, o9] [.inl 0] H72 else G 174 639 [some (.inr (.inr x0)), some (.inl x1), some (.inl x2), some (.inl x3), some (.inl x4), some (.inl x5), some (.inl i4), o7, o8, o9] [.inl 1] H72 else some (some (.inl ((-1000004))), u60.2) else none else bif decide ((i6 : Int32) = Int32.ofInt (((((1 + 1) + 1) + 1) + 1) + 1)) then (hgR H x0 85).bind fun r30 => (hgI H x0 83).bind fun i31 => (hAI H r30 ((i31 - 1))).bind fun i32 => (hgR H x0 86).bind fun r33 => (hgI H x0 83).bind fun i34 => (hAI H r33 ((i34 - 1))).bind fun i35 => bif decide ((i35 : Int32) ≤ (i32 : Int32)) then (hgI H x0 83).bind fun i36 => (hpI H x0 83 ((i36 - 1))).bind fun H37 => (hgI H37 x0 81).bind fun i38 => (hpI H37 x0 81 ((i38 - 1))).bind fun H39 => (hgI H39 x0 78).bind fun i40 => (hpI H39 x0 78 ((i40 + 1))).bind fun H41 => G 174 1056 [some (.inr (.inr x0)), some (.inl x1), some (.inl x2), some (.inl x3), some (.inl x4), some (.inl x5), some (.inl i4), o7, o8, o9] [] H41 else bif Nat.beq (H.1 x0).1 12 then (G 177 0 [some (.inr (.inr x0))] [] H).bind fun u42 => (asI u42.1).bind fun i43 => bif decide ((i43 : Int32) ≠ 0) then (hgJ u42.2 x0 77).bind fun j44 => (hpJ u42.2 x0 77 ((j44 + 1))).bind fun H45 => (hgR H45 x0 85).bind fun r46 => (hgI H45 x0 83).bind fun i47 => (hAI H45 r46 ((i47 - 1))).bind fun i48 => (hSI H45 r46 ((i47 - 1)) ((i48 + 1))).bind fun H49 => (hgR H49 x0 82).bind fun r50 => (hgI H49 x0 81).bind fun i51 => (hgR H49 x0 85).bind fun r52 => (hgI H49 x0 83).bind fun i53 => (hAI H49 r52 ((i53 - 1))).bind fun i54 => (hSI H49 r50 ((i51 - 1)) i54).bind fun H55 => (hgR H55 x0 84).bind fun r56 => (hgI H55 x0 83).bind fun i57 => (hAI H55 r56 ((i57 - 1))).bind fun i58 => (hpI H55 x0 78 ((i58 + 1))).bind fun H59 => G 174 1056 [some (.inr (.inr x0)), some (.inl x1), some (.inl x2), some (.inl x3), some (.inl x4), some (.inl x5), some (.inl i4), o7, o8, o9] [] H59 else some (some (.inl ((-1000004))), u42.2) else none else bif decide ((i6 : Int32) = Int32.ofInt ((((((1 + 1) + 1) + 1) + 1) + 1) + 1)) then bif decide ((x4 : Int32) ≤ (2 : Int32)) then (hgR H x0 84).bind fun r14 => (hgI H x0 83).bind fun i15 => (hAI H r14 ((i15 - 1))).bind fun i16 => bif Nat.beq (H.1 x0).1 12 then (G 176 0 [some (.inr (.inr x0)), some (.inl i16), some (.inl 8), none, none] [] H).bind fun u17 => (asI u17.1).bind fun i18 => (hpI u17.2 x0 78 i18).bind fun H19 => G 174 1056 [some (.inr (.inr x0)), some (.inl x1), some (.inl x2), some (.inl x3), some (.inl x4), some (.inl x5), some (.inl i4), o7, o8, o9] [] H19 else none else (hgR H x0 88).bind fun r20 => (hgI H x0 83).bind fun i21 => (hgJ H x0 77).bind fun j22 => (hSJ H r20 ((i21 - 1)) j22).bind fun H23 => (hgR H23 x0 87).bind fun r24 => (hgI H23 x0 83).bind fun i25 => (hAJ H23 r24 ((i25 - 1))).bind fun j26 => (hpJ H23 x0 77 j26).bind fun H27 => (hgI H27 x0 78).bind fun i28 => (hpI H27 x0 78 ((i28 + 1))).bind fun H29 => G 174 1056 [some (.inr (.inr x0)), some (.inl x1), some (.inl x2), some (.inl x3), some (.inl x4), some (.inl x5), some (.inl i4), o7, o8, o9] [] H29 else bif decide ((i6 : Int32) = Int32.ofInt (((((((1 + 1) + 1) + 1) + 1) + 1) + 1) + 1)) then (hgI H x0 83).bind fun i7 => (hpI H x0 83 ((i7 - 1))).bind fun H8 => bif decide ((x4 : Int32) ≤ (2 : Int32)) then G 174 854 [some (.inr (.inr x0)), some (.inl x1), some (.inl x2), some (.inl x3), some (.inl x4), some (.inl x5), some (.inl i4), o7, o8, o9] [] H8 else (hgR H8 x0 88).bind fun r9 => (hgI H8 x0 83).bind fun i10 => (hAJ H8 r9 i10).bind fun j11 => bif decide ((x4 : Int32) ≠ (3 : Int32)) then (hgJ H8 x0 77).bind fun j12 => bif decide (0 ≤ ((lg_cmp j11 j12) : Int32)) then G 174 847 [some (.inr (.inr x0)), some (.inl x1), some (.inl x2), some (.inl x3), some (.inl x4), some (.inl x5), some (.inl i4), some (.inr (.inl j11)), none, o9] [.inr (.inr x0)] H8 else G 174 842 [some (.inr (.inr x0)), some (.inl x1), some (.inl x2), some (.inl x3), some (.inl x4), some (.inl x5), some (.inl i4), some (.inr (.inl j11)), none, o9] [.inr (.inr x0)] H8 else (hgJ H8 x0 77).bind fun j13 => bif decide (((lg_cmp j11 j13) : Int32) ≤ 0) then G 174 847 [some (.inr (.inr x0)), some (.inl x1), some (.inl x2), some (.inl x3), some (.inl x4), some (.inl x5), some (.inl i4), some (.inr (.inl j11)), none, o9] [.inr (.inr x0)] H8 else G 174 842 [some (.inr (.inr x0)), some (.inl x1), some (.inl x2), some (.inl x3), some (.inl x4), some (.inl x5), some (.inl i4), some (.inr (.inl j11)), none, o9] [.inr (.inr x0)] H8 else G 174 867 [some (.inr (.inr x0)), some (.inl x1), some (.inl x2), some (.inl x3), some (.inl x4), some (.inl x5), some (.inl i4), o7, o8, o9] [] H else (hgI H x0 83).bind fun i106 => (hpI H x0 83 ((i106 - 1))).bind fun H107 => (hgR H107 x0 84).bind fun r108 => (hgI H107 x0 83).bind fun i109 => (hAI H107 r108 i109).bind fun i110 => (hpI H107 x0 78 ((i110 + 1))).bind fun H111 => (hgR H111 x0 84).bind fun r112 => (hgI H111 x0 83).bind fun i113 => (hAI H111 r112 i113).bind fun i114 => ((if (24 : Int32) = 0 then none else some (i114 / 24))).bind fun i115 => (hgR H111 x0 89).bind fun r116 => (hgI H111 x0 83).bind fun i117 => (hAI H111 r116 ((7 * i117))).bind fun i118 => (hpI H111 x0 79 i118).bind fun H119 => (hgR H119 x0 89).bind fun r120 => (hgI H119 x0 83).bind fun i121 => (hAI H119 r120 (((7 * i121) + 1))).bind fun i122 => (hpI H119 x0 80 i122).bind fun H123 => (hgR H123 x0 89).bind fun r124 => (hgI H123 x0 83).bind fun i125 => (hAI H123 r124 (((7 * i125) + 2))).bind fun i126 => (hpI H123 x0 81 i126).bind fun H127 => G 174 182 [some (.inr (.inr x0)), some (.inl x1), some (.inl x2), some (.inl x3), some (.inl x4), some (.inl i115), some (.inl 0), o7, o8, o9] [] H127) := by
  refine Eq.trans (e1 hG PT_174 k174_68 _ _ _) ?_
  show G 174 69 [some (.inr (.inr x0)), some (.inl x1), some (.inl x2), some (.inl x3), some (.inl x4), some (.inl x5), o6, o7, o8, o9] [.inr (.inr x0)] H = _
  refine Eq.trans (e1 hG PT_174 k174_69 _ _ _) ?_
  refine bdc fun i1 => ?_
  show G 174 72 [some (.inr (.inr x0)), some (.inl x1), some (.inl x2), some (.inl x3), some (.inl x4), some (.inl x5), o6, o7, o8, o9] [.inl i1] H = _
  refine Eq.trans (e1 hG PT_174 k174_72 _ _ _) ?_
  show G 174 74 [some (.inr (.inr x0)), some (.inl x1), some (.inl x2), some (.inl x3), some (.inl x4), some (.inl x5), o6, o7, o8, o9] [.inl 24, .inl i1] H = _
  refine Eq.trans (e1 hG PT_174 k174_74 _ _ _) ?_
  show G 174 76 [some (.inr (.inr x0)), some (.inl x1), some (.inl x2), some (.inl x3), some (.inl x4), some (.inl x5), o6, o7, o8, o9] [.inl x5, .inl 24, .inl i1] H = _
  refine Eq.trans (e1 hG PT_174 k174_76 _ _ _) ?_
  show G 174 77 [some (.inr (.inr x0)), some (.inl x1), some (.inl x2), some (.inl x3), some (.inl x4), some (.inl x5), o6, o7, o8, o9] [.inl (24 * x5), .inl i1] H = _
  refine Eq.trans (e1 hG PT_174 k174_77 _ _ _) ?_
  show G 174 78 [some (.inr (.inr x0)), some (.inl x1), some (.inl x2), some (.inl x3), some (.inl x4), some (.inl x5), o6, o7, o8, o9] [.inr (.inr x0), .inl (24 * x5), .inl i1] H = _
  refine Eq.trans (e1 hG PT_174 k174_78 _ _ _) ?_
  refine bdc fun r2 => ?_
  show G 174 81 [some (.inr (.inr x0)), some (.inl x1), some (.inl x2), some (.inl x3), some (.inl x4), some (.inl x5), o6, o7, o8, o9] [.inr (.inr r2), .inl (24 * x5), .inl i1] H = _
  refine Eq.trans (e1 hG PT_174 k174_81 _ _ _) ?_
  show G 174 83 [some (.inr (.inr x0)), some (.inl x1), some (.inl x2), some (.inl x3), some (.inl x4), some (.inl x5), o6, o7, o8, o9] [.inl x5, .inr (.inr r2), .inl (24 * x5), .inl i1] H = _
  refine Eq.trans (e1 hG PT_174 k174_83 _ _ _) ?_
  refine bdc fun i3 => ?_
  show G 174 84 [some (.inr (.inr x0)), some (.inl x1), some (.inl x2), some (.inl x3), some (.inl x4), some (.inl x5), o6, o7, o8, o9] [.inl i3, .inl (24 * x5), .inl i1] H = _
  refine Eq.trans (e1 hG PT_174 k174_84 _ _ _) ?_
  show G 174 85 [some (.inr (.inr x0)), some (.inl x1), some (.inl x2), some (.inl x3), some (.inl x4), some (.inl x5), o6, o7, o8, o9] [.inl ((24 * x5) + i3), .inl i1] H = _
  refine Eq.trans (e1 hG PT_174 k174_85 _ _ _) ?_
  refine bfc ?_ ?_
  · show G 174 221 [some (.inr (.inr x0)), some (.inl x1), some (.inl x2), some (.inl x3), some (.inl x4), some (.inl x5), o6, o7, o8, o9] [] H = _
    refine Eq.trans (e1 hG PT_174 k174_221 _ _ _) ?_
    show G 174 222 [some (.inr (.inr x0)), some (.inl x1), some (.inl x2), some (.inl x3), some (.inl x4), some (.inl x5), o6, o7, o8, o9] [.inr (.inr x0)] H = _
    refine Eq.trans (e1 hG PT_174 k174_222 _ _ _) ?_
    refine bdc fun i4 => ?_
    show G 174 225 [some (.inr (.inr x0)), some (.inl x1), some (.inl x2), some (.inl x3), some (.inl x4), some (.inl x5), o6, o7, o8, o9] [.inl i4] H = _
    refine Eq.trans (e1 hG PT_174 k174_225 _ _ _) ?_
    show G 174 227 [some (.inr (.inr x0)), some (.inl x1), some (.inl x2), some (.inl x3), some (.inl x4), some (.inl x5), some (.inl i4), o7, o8, o9] [] H = _
    refine Eq.trans (e1 hG PT_174 k174_227 _ _ _) ?_
    show G 174 228 [some (.inr (.inr x0)), some (.inl x1), some (.inl x2), some (.inl x3), some (.inl x4), some (.inl x5), some (.inl i4), o7, o8, o9] [.inr (.inr x0)] H = _
    refine Eq.trans (e1 hG PT_174 k174_228 _ _ _) ?_
    refine bdc fun r5 => ?_
    show G 174 231 [some (.inr (.inr x0)), some (.inl x1), some (.inl x2), some (.inl x3), some (.inl x4), some (.inl x5), some (.inl i4), o7, o8, o9] [.inr (.inr r5)] H = _
    refine Eq.trans (e1 hG PT_174 k174_231 _ _ _) ?_
    show G 174 233 [some (.inr (.inr x0)), some (.inl x1), some (.inl x2), some (.inl x3), some (.inl x4), some (.inl x5), some (.inl i4), o7, o8, o9] [.inl i4, .inr (.inr r5)] H = _
    refine Eq.trans (e1 hG PT_174 k174_233 _ _ _) ?_
    refine bdc fun i6 => ?_
    show G 174 234 [some (.inr (.inr x0)), some (.inl x1), some (.inl x2), some (.inl x3), some (.inl x4), some (.inl x5), some (.inl i4), o7, o8, o9] [.inl i6] H = _
    refine Eq.trans (e1 hG PT_174 k174_234 _ _ _) ?_
    refine bfc ?_ ?_
    · show G 174 280 [some (.inr (.inr x0)), some (.inl x1), some (.inl x2), some (.inl x3), some (.inl x4), some (.inl x5), some (.inl i4), o7, o8, o9] [] H = _
      refine Eq.trans (e1 hG PT_174 k174_280 _ _ _) ?_
      show G 174 281 [some (.inr (.inr x0)), some (.inl x1), some (.inl x2), some (.inl x3), some (.inl x4), some (.inl x5), some (.inl i4), o7, o8, o9] [.inr (.inr x0)] H = _
      refine Eq.trans (e1 hG PT_174 k174_281 _ _ _) ?_
      show G 174 282 [some (.inr (.inr x0)), some (.inl x1), some (.inl x2), some (.inl x3), some (.inl x4), some (.inl x5), some (.inl i4), o7, o8, o9] [.inr (.inr x0), .inr (.inr x0)] H = _
      refine Eq.trans (e1 hG PT_174 k174_282 _ _ _) ?_
      refine bdc fun j100 => ?_
      show G 174 285 [some (.inr (.inr x0)), some (.inl x1), some (.inl x2), some (.inl x3), some (.inl x4), some (.inl x5), some (.inl i4), o7, o8, o9] [.inr (.inl j100), .inr (.inr x0)] H = _
      refine Eq.trans (e1 hG PT_174 k174_285 _ _ _) ?_
      show G 174 286 [some (.inr (.inr x0)), some (.inl x1), some (.inl x2), some (.inl x3), some (.inl x4), some (.inl x5), some (.inl i4), o7, o8, o9] [.inr (.inr x0), .inr (.inl j100), .inr (.inr x0)] H = _
      refine Eq.trans (e1 hG PT_174 k174_286 _ _ _) ?_
      refine bdc fun r101 => ?_
      show G 174 289 [some (.inr (.inr x0)), some (.inl x1), some (.inl x2), some (.inl x3), some (.inl x4), some (.inl x5), some (.inl i4), o7, o8, o9] [.inr (.inr r101), .inr (.inl j100), .inr (.inr x0)] H = _
      refine Eq.trans (e1 hG PT_174 k174_289 _ _ _) ?_
      show G 174 291 [some (.inr (.inr x0)), some (.inl x1), some (.inl x2), some (.inl x3), some (.inl x4), some (.inl x5), some (.inl i4), o7, o8, o9] [.inl i4, .inr (.inr r101), .inr (.inl j100), .inr (.inr x0)] H = _
      refine Eq.trans (e1 hG PT_174 k174_291 _ _ _) ?_
      refine bdc fun i102 => ?_
      show G 174 292 [some (.inr (.inr x0)), some (.inl x1), some (.inl x2), some (.inl x3), some (.inl x4), some (.inl x5), some (.inl i4), o7, o8, o9] [.inl i102, .inr (.inl j100), .inr (.inr x0)] H = _
      refine Eq.trans (e1 hG PT_174 k174_292 _ _ _) ?_
      show G 174 293 [some (.inr (.inr x0)), some (.inl x1), some (.inl x2), some (.inl x3), some (.inl x4), some (.inl x5), some (.inl i4), o7, o8, o9] [.inr (.inl i102.toInt64), .inr (.inl j100), .inr (.inr x0)] H = _
      refine Eq.trans (e1 hG PT_174 k174_293 _ _ _) ?_
      show G 174 294 [some (.inr (.inr x0)), some (.inl x1), some (.inl x2), some (.inl x3), some (.inl x4), some (.inl x5), some (.inl i4), o7, o8, o9] [.inr (.inl (j100 + i102.toInt64)), .inr (.inr x0)] H = _
      refine Eq.trans (e1 hG PT_174 k174_294 _ _ _) ?_
      refine bdc fun H103 => ?_
      show G 174 297 [some (.inr (.inr x0)), some (.inl x1), some (.inl x2), some (.inl x3), some (.inl x4), some (.inl x5), some (.inl i4), o7, o8, o9] [] H103 = _
      refine Eq.trans (e1 hG PT_174 k174_297 _ _ _) ?_
      show G 174 298 [some (.inr (.inr x0)), some (.inl x1), some (.inl x2), some (.inl x3), some (.inl x4), some (.inl x5), some (.inl i4), o7, o8, o9] [.inr (.inr x0)] H103 = _
      refine Eq.trans (e1 hG PT_174 k174_298 _ _ _) ?_
      show G 174 299 [some (.inr (.inr x0)), some (.inl x1), some (.inl x2), some (.inl x3), some (.inl x4), some (.inl x5), some (.inl i4), o7, o8, o9] [.inr (.inr x0), .inr (.inr x0)] H103 = _
      refine Eq.trans (e1 hG PT_174 k174_299 _ _ _) ?_
      refine bdc fun i104 => ?_
      show G 174 302 [some (.inr (.inr x0)), some (.inl x1), some (.inl x2), some (.inl x3), some (.inl x4), some (.inl x5), some (.inl i4), o7, o8, o9] [.inl i104, .inr (.inr x0)] H103 = _
      refine Eq.trans (e1 hG PT_174 k174_302 _ _ _) ?_
      show G 174 303 [some (.inr (.inr x0)), some (.inl x1), some (.inl x2), some (.inl x3), some (.inl x4), some (.inl x5), some (.inl i4), o7, o8, o9] [.inl 1, .inl i104, .inr (.inr x0)] H103 = _
      refine Eq.trans (e1 hG PT_174 k174_303 _ _ _) ?_
      show G 174 304 [some (.inr (.inr x0)), some (.inl x1), some (.inl x2), some (.inl x3), some (.inl x4), some (.inl x5), some (.inl i4), o7, o8, o9] [.inl (i104 + 1), .inr (.inr x0)] H103 = _
      refine Eq.trans (e1 hG PT_174 k174_304 _ _ _) ?_
      refine bdc fun H105 => ?_
      show G 174 307 [some (.inr (.inr x0)), some (.inl x1), some (.inl x2), some (.inl x3), some (.inl x4), some (.inl x5), some (.inl i4), o7, o8, o9] [] H105 = _
      refine Eq.trans (e1 hG PT_174 k174_307 _ _ _) ?_
      rfl
    · refine bfc ?_ ?_
      · rfl
      · refine bfc ?_ ?_
        · show G 174 310 [some (.inr (.inr x0)), some (.inl x1), some (.inl x2), some (.inl x3), some (.inl x4), some (.inl x5), some (.inl i4), o7, o8, o9] [] H = _
          refine Eq.trans (e1 hG PT_174 k174_310 _ _ _) ?_
          show G 174 311 [some (.inr (.inr x0)), some (.inl x1), some (.inl x2), some (.inl x3), some (.inl x4), some (.inl x5), some (.inl i4), o7, o8, o9] [.inr (.inr x0)] H = _
          refine Eq.trans (e1 hG PT_174 k174_311 _ _ _) ?_
          show G 174 313 [some (.inr (.inr x0)), some (.inl x1), some (.inl x2), some (.inl x3), some (.inl x4), some (.inl x5), some (.inl i4), o7, o8, o9] [.inl i4, .inr (.inr x0)] H = _
          refine Eq.trans (e1 hG PT_174 k174_313 _ _ _) ?_
          show G 174 314 [some (.inr (.inr x0)), some (.inl x1), some (.inl x2), some (.inl x3), some (.inl x4), some (.inl x5), some (.inl i4), o7, o8, o9] [.inl 0, .inl i4, .inr (.inr x0)] H = _
          refine Eq.trans (e1 hG PT_174 k174_314 _ _ _) ?_
          refine bfc ?_ ?_
          · refine bdc fun u73 => ?_
            refine bdc fun i74 => ?_
            show G 174 317 [some (.inr (.inr x0)), some (.inl x1), some (.inl x2), some (.inl x3), some (.inl x4), some (.inl x5), some (.inl i4), o7, o8, o9] [.inl i74] u73.2 = _
            refine Eq.trans (e1 hG PT_174 k174_317 _ _ _) ?_
            show G 174 319 [some (.inr (.inr x0)), some (.inl x1), some (.inl x2), some (.inl x3), some (.inl x4), some (.inl x5), some (.inl i4), some (.inl i74), o8, o9] [] u73.2 = _
            refine Eq.trans (e1 hG PT_174 k174_319 _ _ _) ?_
            show G 174 321 [some (.inr (.inr x0)), some (.inl x1), some (.inl x2), some (.inl x3), some (.inl x4), some (.inl x5), some (.inl i4), some (.inl i74), o8, o9] [.inl i74] u73.2 = _
            refine Eq.trans (e1 hG PT_174 k174_321 _ _ _) ?_
            refine bfc ?_ ?_
            · show G 174 341 [some (.inr (.inr x0)), some (.inl x1), some (.inl x2), some (.inl x3), some (.inl x4), some (.inl x5), some (.inl i4), some (.inl i74), o8, o9] [] u73.2 = _
              refine Eq.trans (e1 hG PT_174 k174_341 _ _ _) ?_
              show G 174 342 [some (.inr (.inr x0)), some (.inl x1), some (.inl x2), some (.inl x3), some (.inl x4), some (.inl x5), some (.inl i4), some (.inl i74), o8, o9] [.inr (.inr x0)] u73.2 = _
              refine Eq.trans (e1 hG PT_174 k174_342 _ _ _) ?_
              refine bfc ?_ ?_
              · refine bdc fun u75 => ?_
                refine bdc fun i76 => ?_
                show G 174 345 [some (.inr (.inr x0)), some (.inl x1), some (.inl x2), some (.inl x3), some (.inl x4), some (.inl x5), some (.inl i4), some (.inl i74), o8, o9] [.inl i76] u75.2 = _
                refine Eq.trans (e1 hG PT_174 k174_345 _ _ _) ?_
                refine bfc ?_ ?_
                · show G 174 352 [some (.inr (.inr x0)), some (.inl x1), some (.inl x2), some (.inl x3), some (.inl x4), some (.inl x5), some (.inl i4), some (.inl i74), o8, o9] [] u75.2 = _
                  refine Eq.trans (e1 hG PT_174 k174_352 _ _ _) ?_
                  show G 174 353 [some (.inr (.inr x0)), some (.inl x1), some (.inl x2), some (.inl x3), some (.inl x4), some (.inl x5), some (.inl i4), some (.inl i74), o8, o9] [.inr (.inr x0)] u75.2 = _
                  refine Eq.trans (e1 hG PT_174 k174_353 _ _ _) ?_
                  show G 174 354 [some (.inr (.inr x0)), some (.inl x1), some (.inl x2), some (.inl x3), some (.inl x4), some (.inl x5), some (.inl i4), some (.inl i74), o8, o9] [.inr (.inr x0), .inr (.inr x0)] u75.2 = _
                  refine Eq.trans (e1 hG PT_174 k174_354 _ _ _) ?_
                  refine bdc fun j77 => ?_
                  show G 174 357 [some (.inr (.inr x0)), some (.inl x1), some (.inl x2), some (.inl x3), some (.inl x4), some (.inl x5), some (.inl i4), some (.inl i74), o8, o9] [.inr (.inl j77), .inr (.inr x0)] u75.2 = _
                  refine Eq.trans (e1 hG PT_174 k174_357 _ _ _) ?_
                  show G 174 358 [some (.inr (.inr x0)), some (.inl x1), some (.inl x2), some (.inl x3), some (.inl x4), some (.inl x5), some (.inl i4), some (.inl i74), o8, o9] [.inr (.inl 1), .inr (.inl j77), .inr (.inr x0)] u75.2 = _
                  refine Eq.trans (e1 hG PT_174 k174_358 _ _ _) ?_
                  show G 174 359 [some (.inr (.inr x0)), some (.inl x1), some (.inl x2), some (.inl x3), some (.inl x4), some (.inl x5), some (.inl i4), some (.inl i74), o8, o9] [.inr (.inl (j77 + 1)), .inr (.inr x0)] u75.2 = _
                  refine Eq.trans (e1 hG PT_174 k174_359 _ _ _) ?_
                  refine bdc fun H78 => ?_
                  show G 174 362 [some (.inr (.inr x0)), some (.inl x1), some (.inl x2), some (.inl x3), some (.inl x4), some (.inl x5), some (.inl i4), some (.inl i74), o8, o9] [] H78 = _
                  refine Eq.trans (e1 hG PT_174 k174_362 _ _ _) ?_
                  show G 174 363 [some (.inr (.inr x0)), some (.inl x1), some (.inl x2), some (.inl x3), some (.inl x4), some (.inl x5), some (.inl i4), some (.inl i74), o8, o9] [.inr (.inr x0)] H78 = _
                  refine Eq.trans (e1 hG PT_174 k174_363 _ _ _) ?_
                  refine bdc fun r79 => ?_
                  show G 174 366 [some (.inr (.inr x0)), some (.inl x1), some (.inl x2), some (.inl x3), some (.inl x4), some (.inl x5), some (.inl i4), some (.inl i74), o8, o9] [.inr (.inr r79)] H78 = _
                  refine Eq.trans (e1 hG PT_174 k174_366 _ _ _) ?_
                  show G 174 367 [some (.inr (.inr x0)), some (.inl x1), some (.inl x2), some (.inl x3), some (.inl x4), some (.inl x5), some (.inl i4), some (.inl i74), o8, o9] [.inr (.inr x0), .inr (.inr r79)] H78 = _
                  refine Eq.trans (e1 hG PT_174 k174_367 _ _ _) ?_
                  refine bdc fun i80 => ?_
                  show G 174 370 [some (.inr (.inr x0)), some (.inl x1), some (.inl x2), some (.inl x3), some (.inl x4), some (.inl x5), some (.inl i4), some (.inl i74), o8, o9] [.inl i80, .inr (.inr r79)] H78 = _
                  refine Eq.trans (e1 hG PT_174 k174_370 _ _ _) ?_
                  show G 174 372 [some (.inr (.inr x0)), some (.inl x1), some (.inl x2), some (.inl x3), some (.inl x4), some (.inl x5), some (.inl i4), some (.inl i74), o8, o9] [.inl i4, .inl i80, .inr (.inr r79)] H78 = _
                  refine Eq.trans (e1 hG PT_174 k174_372 _ _ _) ?_
                  refine bdc fun H81 => ?_
                  show G 174 373 [some (.inr (.inr x0)), some (.inl x1), some (.inl x2), some (.inl x3), some (.inl x4), some (.inl x5), some (.inl i4), some (.inl i74), o8, o9] [] H81 = _
                  refine Eq.trans (e1 hG PT_174 k174_373 _ _ _) ?_
                  show G 174 374 [some (.inr (.inr x0)), some (.inl x1), some (.inl x2), some (.inl x3), some (.inl x4), some (.inl x5), some (.inl i4), some (.inl i74), o8, o9] [.inr (.inr x0)] H81 = _
                  refine Eq.trans (e1 hG PT_174 k174_374 _ _ _) ?_
                  refine bdc fun r82 => ?_
                  show G 174 377 [some (.inr (.inr x0)), some (.inl x1), some (.inl x2), some (.inl x3), some (.inl x4), some (.inl x5), some (.inl i4), some (.inl i74), o8, o9] [.inr (.inr r82)] H81 = _
                  refine Eq.trans (e1 hG PT_174 k174_377 _ _ _) ?_
                  show G 174 378 [some (.inr (.inr x0)), some (.inl x1), some (.inl x2), some (.inl x3), some (.inl x4), some (.inl x5), some (.inl i4), some (.inl i74), o8, o9] [.inr (.inr x0), .inr (.inr r82)] H81 = _
                  refine Eq.trans (e1 hG PT_174 k174_378 _ _ _) ?_
                  refine bdc fun i83 => ?_
                  show G 174 381 [some (.inr (.inr x0)), some (.inl x1), some (.inl x2), some (.inl x3), some (.inl x4), some (.inl x5), some (.inl i4), some (.inl i74), o8, o9] [.inl i83, .inr (.inr r82)] H81 = _
                  refine Eq.trans (e1 hG PT_174 k174_381 _ _ _) ?_
                  show G 174 382 [some (.inr (.inr x0)), some (.inl x1), some (.inl x2), some (.inl x3), some (.inl x4), some (.inl x5), some (.inl i4), some (.inl i74), o8, o9] [.inl 1, .inl i83, .inr (.inr r82)] H81 = _
                  refine Eq.trans (e1 hG PT_174 k174_382 _ _ _) ?_
                  refine bdc fun H84 => ?_
                  show G 174 383 [some (.inr (.inr x0)), some (.inl x1), some (.inl x2), some (.inl x3), some (.inl x4), some (.inl x5), some (.inl i4), some (.inl i74), o8, o9] [] H84 = _
                  refine Eq.trans (e1 hG PT_174 k174_383 _ _ _) ?_
                  show G 174 384 [some (.inr (.inr x0)), some (.inl x1), some (.inl x2), some (.inl x3), some (.inl x4), some (.inl x5), some (.inl i4), some (.inl i74), o8, o9] [.inr (.inr x0)] H84 = _
                  refine Eq.trans (e1 hG PT_174 k174_384 _ _ _) ?_
                  refine bdc fun r85 => ?_
                  show G 174 387 [some (.inr (.inr x0)), some (.inl x1), some (.inl x2), some (.inl x3), some (.inl x4), some (.inl x5), some (.inl i4), some (.inl i74), o8, o9] [.inr (.inr r85)] H84 = _
                  refine Eq.trans (e1 hG PT_174 k174_387 _ _ _) ?_
                  show G 174 388 [some (.inr (.inr x0)), some (.inl x1), some (.inl x2), some (.inl x3), some (.inl x4), some (.inl x5), some (.inl i4), some (.inl i74), o8, o9] [.inr (.inr x0), .inr (.inr r85)] H84 = _
                  refine Eq.trans (e1 hG PT_174 k174_388 _ _ _) ?_
                  refine bdc fun i86 => ?_
                  show G 174 391 [some (.inr (.inr x0)), some (.inl x1), some (.inl x2), some (.inl x3), some (.inl x4), some (.inl x5), some (.inl i4), some (.inl i74), o8, o9] [.inl i86, .inr (.inr r85)] H84 = _
                  refine Eq.trans (e1 hG PT_174 k174_391 _ _ _) ?_
                  show G 174 393 [some (.inr (.inr x0)), some (.inl x1), some (.inl x2), some (.inl x3), some (.inl x4), some (.inl x5), some (.inl i4), some (.inl i74), o8, o9] [.inl i74, .inl i86, .inr (.inr r85)] H84 = _
                  refine Eq.trans (e1 hG PT_174 k174_393 _ _ _) ?_
                  refine bdc fun H87 => ?_
                  show G 174 394 [some (.inr (.inr x0)), some (.inl x1), some (.inl x2), some (.inl x3), some (.inl x4), some (.inl x5), some (.inl i4), some (.inl i74), o8, o9] [] H87 = _
                  refine Eq.trans (e1 hG PT_174 k174_394 _ _ _) ?_
                  show G 174 395 [some (.inr (.inr x0)), some (.inl x1), some (.inl x2), some (.inl x3), some (.inl x4), some (.inl x5), some (.inl i4), some (.inl i74), o8, o9] [.inr (.inr x0)] H87 = _
                  refine Eq.trans (e1 hG PT_174 k174_395 _ _ _) ?_
                  show G 174 396 [some (.inr (.inr x0)), some (.inl x1), some (.inl x2), some (.inl x3), some (.inl x4), some (.inl x5), some (.inl i4), some (.inl i74), o8, o9] [.inr (.inr x0), .inr (.inr x0)] H87 = _
                  refine Eq.trans (e1 hG PT_174 k174_396 _ _ _) ?_
                  refine bdc fun i88 => ?_
                  show G 174 399 [some (.inr (.inr x0)), some (.inl x1), some (.inl x2), some (.inl x3), some (.inl x4), some (.inl x5), some (.inl i4), some (.inl i74), o8, o9] [.inl i88, .inr (.inr x0)] H87 = _
                  refine Eq.trans (e1 hG PT_174 k174_399 _ _ _) ?_
                  show G 174 400 [some (.inr (.inr x0)), some (.inl x1), some (.inl x2), some (.inl x3), some (.inl x4), some (.inl x5), some (.inl i4), some (.inl i74), o8, o9] [.inl 1, .inl i88, .inr (.inr x0)] H87 = _
                  refine Eq.trans (e1 hG PT_174 k174_400 _ _ _) ?_
                  show G 174 401 [some (.inr (.inr x0)), some (.inl x1), some (.inl x2), some (.inl x3), some (.inl x4), some (.inl x5), some (.inl i4), some (.inl i74), o8, o9] [.inl (i88 + 1), .inr (.inr x0)] H87 = _
                  refine Eq.trans (e1 hG PT_174 k174_401 _ _ _) ?_
                  refine bdc fun H89 => ?_
                  show G 174 404 [some (.inr (.inr x0)), some (.inl x1), some (.inl x2), some (.inl x3), some (.inl x4), some (.inl x5), some (.inl i4), some (.inl i74), o8, o9] [] H89 = _
                  refine Eq.trans (e1 hG PT_174 k174_404 _ _ _) ?_
                  show G 174 405 [some (.inr (.inr x0)), some (.inl x1), some (.inl x2), some (.inl x3), some (.inl x4), some (.inl x5), some (.inl i4), some (.inl i74), o8, o9] [.inr (.inr x0)] H89 = _
                  refine Eq.trans (e1 hG PT_174 k174_405 _ _ _) ?_
                  refine bdc fun r90 => ?_
                  show G 174 408 [some (.inr (.inr x0)), some (.inl x1), some (.inl x2), some (.inl x3), some (.inl x4), some (.inl x5), some (.inl i4), some (.inl i74), o8, o9] [.inr (.inr r90)] H89 = _
                  refine Eq.trans (e1 hG PT_174 k174_408 _ _ _) ?_
                  show G 174 409 [some (.inr (.inr x0)), some (.inl x1), some (.inl x2), some (.inl x3), some (.inl x4), some (.inl x5), some (.inl i4), some (.inl i74), o8, o9] [.inr (.inr x0), .inr (.inr r90)] H89 = _
                  refine Eq.trans (e1 hG PT_174 k174_409 _ _ _) ?_
                  refine bdc fun i91 => ?_
                  show G 174 412 [some (.inr (.inr x0)), some (.inl x1), some (.inl x2), some (.inl x3), some (.inl x4), some (.inl x5), some (.inl i4), some (.inl i74), o8, o9] [.inl i91, .inr (.inr r90)] H89 = _
                  refine Eq.trans (e1 hG PT_174 k174_412 _ _ _) ?_
                  show G 174 413 [some (.inr (.inr x0)), some (.inl x1), some (.inl x2), some (.inl x3), some (.inl x4), some (.inl x5), some (.inl i4), some (.inl i74), o8, o9] [.inl 1, .inl i91, .inr (.inr r90)] H89 = _
                  refine Eq.trans (e1 hG PT_174 k174_413 _ _ _) ?_
                  refine bdc fun H92 => ?_
                  show G 174 414 [some (.inr (.inr x0)), some (.inl x1), some (.inl x2), some (.inl x3), some (.inl x4), some (.inl x5), some (.inl i4), some (.inl i74), o8, o9] [] H92 = _
                  refine Eq.trans (e1 hG PT_174 k174_414 _ _ _) ?_
                  show G 174 415 [some (.inr (.inr x0)), some (.inl x1), some (.inl x2), some (.inl x3), some (.inl x4), some (.inl x5), some (.inl i4), some (.inl i74), o8, o9] [.inr (.inr x0)] H92 = _
                  refine Eq.trans (e1 hG PT_174 k174_415 _ _ _) ?_
                  show G 174 416 [some (.inr (.inr x0)), some (.inl x1), some (.inl x2), some (.inl x3), some (.inl x4), some (.inl x5), some (.inl i4), some (.inl i74), o8, o9] [.inr (.inr x0), .inr (.inr x0)] H92 = _
                  refine Eq.trans (e1 hG PT_174 k174_416 _ _ _) ?_
                  refine bdc fun i93 => ?_
                  show G 174 419 [some (.inr (.inr x0)), some (.inl x1), some (.inl x2), some (.inl x3), some (.inl x4), some (.inl x5), some (.inl i4), some (.inl i74), o8, o9] [.inl i93, .inr (.inr x0)] H92 = _
                  refine Eq.trans (e1 hG PT_174 k174_419 _ _ _) ?_
                  show G 174 420 [some (.inr (.inr x0)), some (.inl x1), some (.inl x2), some (.inl x3), some (.inl x4), some (.inl x5), some (.inl i4), some (.inl i74), o8, o9] [.inl 1, .inl i93, .inr (.inr x0)] H92 = _
                  refine Eq.trans (e1 hG PT_174 k174_420 _ _ _) ?_
                  show G 174 421 [some (.inr (.inr x0)), some (.inl x1), some (.inl x2), some (.inl x3), some (.inl x4), some (.inl x5), some (.inl i4), some (.inl i74), o8, o9] [.inl (i93 + 1), .inr (.inr x0)] H92 = _
                  refine Eq.trans (e1 hG PT_174 k174_421 _ _ _) ?_
                  refine bdc fun H94 => ?_
                  show G 174 424 [some (.inr (.inr x0)), some (.inl x1), some (.inl x2), some (.inl x3), some (.inl x4), some (.inl x5), some (.inl i4), some (.inl i74), o8, o9] [] H94 = _
                  refine Eq.trans (e1 hG PT_174 k174_424 _ _ _) ?_
                  show G 174 425 [some (.inr (.inr x0)), some (.inl x1), some (.inl x2), some (.inl x3), some (.inl x4), some (.inl x5), some (.inl i4), some (.inl i74), o8, o9] [.inr (.inr x0)] H94 = _
                  refine Eq.trans (e1 hG PT_174 k174_425 _ _ _) ?_
                  show G 174 426 [some (.inr (.inr x0)), some (.inl x1), some (.inl x2), some (.inl x3), some (.inl x4), some (.inl x5), some (.inl i4), some (.inl i74), o8, o9] [.inr (.inr x0), .inr (.inr x0)] H94 = _
                  refine Eq.trans (e1 hG PT_174 k174_426 _ _ _) ?_
                  refine bdc fun i95 => ?_
                  show G 174 429 [some (.inr (.inr x0)), some (.inl x1), some (.inl x2), some (.inl x3), some (.inl x4), some (.inl x5), some (.inl i4), some (.inl i74), o8, o9] [.inl i95, .inr (.inr x0)] H94 = _
                  refine Eq.trans (e1 hG PT_174 k174_429 _ _ _) ?_
                  show G 174 430 [some (.inr (.inr x0)), some (.inl x1), some (.inl x2), some (.inl x3), some (.inl x4), some (.inl x5), some (.inl i4), some (.inl i74), o8, o9] [.inl 1, .inl i95, .inr (.inr x0)] H94 = _
                  refine Eq.trans (e1 hG PT_174 k174_430 _ _ _) ?_
                  show G 174 431 [some (.inr (.inr x0)), some (.inl x1), some (.inl x2), some (.inl x3), some (.inl x4), some (.inl x5), some (.inl i4), some (.inl i74), o8, o9] [.inl (i95 + 1), .inr (.inr x0)] H94 = _
                  refine Eq.trans (e1 hG PT_174 k174_431 _ _ _) ?_
                  refine bdc fun H96 => ?_
                  show G 174 434 [some (.inr (.inr x0)), some (.inl x1), some (.inl x2), some (.inl x3), some (.inl x4), some (.inl x5), some (.inl i4), some (.inl i74), o8, o9] [] H96 = _
                  refine Eq.trans (e1 hG PT_174 k174_434 _ _ _) ?_
                  rfl
                · show G 174 348 [some (.inr (.inr x0)), some (.inl x1), some (.inl x2), some (.inl x3), some (.inl x4), some (.inl x5), some (.inl i4), some (.inl i74), o8, o9] [] u75.2 = _
                  refine Eq.trans (e1 hG PT_174 k174_348 _ _ _) ?_
                  show G 174 351 [some (.inr (.inr x0)), some (.inl x1), some (.inl x2), some (.inl x3), some (.inl x4), some (.inl x5), some (.inl i4), some (.inl i74), o8, o9] [.inl (-1000004)] u75.2 = _
                  exact e1 hG PT_174 k174_351 _ _ _
              · rfl
            · show G 174 324 [some (.inr (.inr x0)), some (.inl x1), some (.inl x2), some (.inl x3), some (.inl x4), some (.inl x5), some (.inl i4), some (.inl i74), o8, o9] [] u73.2 = _
              refine Eq.trans (e1 hG PT_174 k174_324 _ _ _) ?_
              show G 174 325 [some (.inr (.inr x0)), some (.inl x1), some (.inl x2), some (.inl x3), some (.inl x4), some (.inl x5), some (.inl i4), some (.inl i74), o8, o9] [.inr (.inr x0)] u73.2 = _
              refine Eq.trans (e1 hG PT_174 k174_325 _ _ _) ?_
              show G 174 326 [some (.inr (.inr x0)), some (.inl x1), some (.inl x2), some (.inl x3), some (.inl x4), some (.inl x5), some (.inl i4), some (.inl i74), o8, o9] [.inr (.inr x0), .inr (.inr x0)] u73.2 = _
              refine Eq.trans (e1 hG PT_174 k174_326 _ _ _) ?_
              show G 174 328 [some (.inr (.inr x0)), some (.inl x1), some (.inl x2), some (.inl x3), some (.inl x4), some (.inl x5), some (.inl i4), some (.inl i74), o8, o9] [.inl i4, .inr (.inr x0), .inr (.inr x0)] u73.2 = _
              refine Eq.trans (e1 hG PT_174 k174_328 _ _ _) ?_
              show G 174 330 [some (.inr (.inr x0)), some (.inl x1), some (.inl x2), some (.inl x3), some (.inl x4), some (.inl x5), some (.inl i4), some (.inl i74), o8, o9] [.inl 6, .inl i4, .inr (.inr x0), .inr (.inr x0)] u73.2 = _
              refine Eq.trans (e1 hG PT_174 k174_330 _ _ _) ?_
              refine bfc ?_ ?_
              · refine bdc fun u97 => ?_
                refine bdc fun i98 => ?_
                show G 174 333 [some (.inr (.inr x0)), some (.inl x1), some (.inl x2), some (.inl x3), some (.inl x4), some (.inl x5), some (.inl i4), some (.inl i74), o8, o9] [.inl i98, .inr (.inr x0)] u97.2 = _
                refine Eq.trans (e1 hG PT_174 k174_333 _ _ _) ?_
                show G 174 334 [some (.inr (.inr x0)), some (.inl x1), some (.inl x2), some (.inl x3), some (.inl x4), some (.inl x5), some (.inl i4), some (.inl i74), o8, o9] [.inl 1, .inl i98, .inr (.inr x0)] u97.2 = _
                refine Eq.trans (e1 hG PT_174 k174_334 _ _ _) ?_
                show G 174 335 [some (.inr (.inr x0)), some (.inl x1), some (.inl x2), some (.inl x3), some (.inl x4), some (.inl x5), some (.inl i4), some (.inl i74), o8, o9] [.inl (i98 + 1), .inr (.inr x0)] u97.2 = _
                refine Eq.trans (e1 hG PT_174 k174_335 _ _ _) ?_
                refine bdc fun H99 => ?_
                show G 174 338 [some (.inr (.inr x0)), some (.inl x1), some (.inl x2), some (.inl x3), some (.inl x4), some (.inl x5), some (.inl i4), some (.inl i74), o8, o9] [] H99 = _
                refine Eq.trans (e1 hG PT_174 k174_338 _ _ _) ?_
                rfl
              · rfl
          · rfl
        · refine bfc ?_ ?_
          · rfl
          · refine bfc ?_ ?_
            · show G 174 573 [some (.inr (.inr x0)), some (.inl x1), some (.inl x2), some (.inl x3), some (.inl x4), some (.inl x5), some (.inl i4), o7, o8, o9] [] H = _
              refine Eq.trans (e1 hG PT_174 k174_573 _ _ _) ?_
              show G 174 574 [some (.inr (.inr x0)), some (.inl x1), some (.inl x2), some (.inl x3), some (.inl x4), some (.inl x5), some (.inl i4), o7, o8, o9] [.inr (.inr x0)] H = _
              refine Eq.trans (e1 hG PT_174 k174_574 _ _ _) ?_
              refine bfc ?_ ?_
              · refine bdc fun u60 => ?_
                refine bdc fun i61 => ?_
                show G 174 577 [some (.inr (.inr x0)), some (.inl x1), some (.inl x2), some (.inl x3), some (.inl x4), some (.inl x5), some (.inl i4), o7, o8, o9] [.inl i61] u60.2 = _
                refine Eq.trans (e1 hG PT_174 k174_577 _ _ _) ?_
                refine bfc ?_ ?_
                · show G 174 584 [some (.inr (.inr x0)), some (.inl x1), some (.inl x2), some (.inl x3), some (.inl x4), some (.inl x5), some (.inl i4), o7, o8, o9] [] u60.2 = _
                  refine Eq.trans (e1 hG PT_174 k174_584 _ _ _) ?_
                  show G 174 585 [some (.inr (.inr x0)), some (.inl x1), some (.inl x2), some (.inl x3), some (.inl x4), some (.inl x5), some (.inl i4), o7, o8, o9] [.inr (.inr x0)] u60.2 = _
                  refine Eq.trans (e1 hG PT_174 k174_585 _ _ _) ?_
                  show G 174 586 [some (.inr (.inr x0)), some (.inl x1), some (.inl x2), some (.inl x3), some (.inl x4), some (.inl x5), some (.inl i4), o7, o8, o9] [.inr (.inr x0), .inr (.inr x0)] u60.2 = _
                  refine Eq.trans (e1 hG PT_174 k174_586 _ _ _) ?_
                  refine bdc fun j62 => ?_
                  show G 174 589 [some (.inr (.inr x0)), some (.inl x1), some (.inl x2), some (.inl x3), some (.inl x4), some (.inl x5), some (.inl i4), o7, o8, o9] [.inr (.inl j62), .inr (.inr x0)] u60.2 = _
                  refine Eq.trans (e1 hG PT_174 k174_589 _ _ _) ?_
                  show G 174 590 [some (.inr (.inr x0)), some (.inl x1), some (.inl x2), some (.inl x3), some (.inl x4), some (.inl x5), some (.inl i4), o7, o8, o9] [.inr (.inl 1), .inr (.inl j62), .inr (.inr x0)] u60.2 = _
                  refine Eq.trans (e1 hG PT_174 k174_590 _ _ _) ?_
                  show G 174 591 [some (.inr (.inr x0)), some (.inl x1), some (.inl x2), some (.inl x3), some (.inl x4), some (.inl x5), some (.inl i4), o7, o8, o9] [.inr (.inl (j62 + 1)), .inr (.inr x0)] u60.2 = _
                  refine Eq.trans (e1 hG PT_174 k174_591 _ _ _) ?_
                  refine bdc fun H63 => ?_
                  show G 174 594 [some (.inr (.inr x0)), some (.inl x1), some (.inl x2), some (.inl x3), some (.inl x4), some (.inl x5), some (.inl i4), o7, o8, o9] [] H63 = _
                  refine Eq.trans (e1 hG PT_174 k174_594 _ _ _) ?_
                  show G 174 595 [some (.inr (.inr x0)), some (.inl x1), some (.inl x2), some (.inl x3), some (.inl x4), some (.inl x5), some (.inl i4), o7, o8, o9] [.inr (.inr x0)] H63 = _
                  refine Eq.trans (e1 hG PT_174 k174_595 _ _ _) ?_
                  refine bdc fun r64 => ?_
                  show G 174 598 [some (.inr (.inr x0)), some (.inl x1), some (.inl x2), some (.inl x3), some (.inl x4), some (.inl x5), some (.inl i4), o7, o8, o9] [.inr (.inr r64)] H63 = _
                  refine Eq.trans (e1 hG PT_174 k174_598 _ _ _) ?_
                  show G 174 599 [some (.inr (.inr x0)), some (.inl x1), some (.inl x2), some (.inl x3), some (.inl x4), some (.inl x5), some (.inl i4), o7, o8, o9] [.inr (.inr x0), .inr (.inr r64)] H63 = _
                  refine Eq.trans (e1 hG PT_174 k174_599 _ _ _) ?_
                  refine bdc fun i65 => ?_
                  show G 174 602 [some (.inr (.inr x0)), some (.inl x1), some (.inl x2), some (.inl x3), some (.inl x4), some (.inl x5), some (.inl i4), o7, o8, o9] [.inl i65, .inr (.inr r64)] H63 = _
                  refine Eq.trans (e1 hG PT_174 k174_602 _ _ _) ?_
                  show G 174 604 [some (.inr (.inr x0)), some (.inl x1), some (.inl x2), some (.inl x3), some (.inl x4), some (.inl x5), some (.inl i4), o7, o8, o9] [.inl i4, .inl i65, .inr (.inr r64)] H63 = _
                  refine Eq.trans (e1 hG PT_174 k174_604 _ _ _) ?_
                  refine bdc fun H66 => ?_
                  show G 174 605 [some (.inr (.inr x0)), some (.inl x1), some (.inl x2), some (.inl x3), some (.inl x4), some (.inl x5), some (.inl i4), o7, o8, o9] [] H66 = _
                  refine Eq.trans (e1 hG PT_174 k174_605 _ _ _) ?_
                  show G 174 606 [some (.inr (.inr x0)), some (.inl x1), some (.inl x2), some (.inl x3), some (.inl x4), some (.inl x5), some (.inl i4), o7, o8, o9] [.inr (.inr x0)] H66 = _
                  refine Eq.trans (e1 hG PT_174 k174_606 _ _ _) ?_
                  refine bdc fun r67 => ?_
                  show G 174 609 [some (.inr (.inr x0)), some (.inl x1), some (.inl x2), some (.inl x3), some (.inl x4), some (.inl x5), some (.inl i4), o7, o8, o9] [.inr (.inr r67)] H66 = _
                  refine Eq.trans (e1 hG PT_174 k174_609 _ _ _) ?_
                  show G 174 610 [some (.inr (.inr x0)), some (.inl x1), some (.inl x2), some (.inl x3), some (.inl x4), some (.inl x5), some (.inl i4), o7, o8, o9] [.inr (.inr x0), .inr (.inr r67)] H66 = _
                  refine Eq.trans (e1 hG PT_174 k174_610 _ _ _) ?_
                  refine bdc fun i68 => ?_
                  show G 174 613 [some (.inr (.inr x0)), some (.inl x1), some (.inl x2), some (.inl x3), some (.inl x4), some (.inl x5), some (.inl i4), o7, o8, o9] [.inl i68, .inr (.inr r67)] H66 = _
                  refine Eq.trans (e1 hG PT_174 k174_613 _ _ _) ?_
                  show G 174 614 [some (.inr (.inr x0)), some (.inl x1), some (.inl x2), some (.inl x3), some (.inl x4), some (.inl x5), some (.inl i4), o7, o8, o9] [.inr (.inr x0), .inl i68, .inr (.inr r67)] H66 = _
                  refine Eq.trans (e1 hG PT_174 k174_614 _ _ _) ?_
                  refine bdc fun j69 => ?_
                  show G 174 617 [some (.inr (.inr x0)), some (.inl x1), some (.inl x2), some (.inl x3), some (.inl x4), some (.inl x5), some (.inl i4), o7, o8, o9] [.inr (.inl j69), .inl i68, .inr (.inr r67)] H66 = _
                  refine Eq.trans (e1 hG PT_174 k174_617 _ _ _) ?_
                  refine bdc fun H70 => ?_
                  show G 174 618 [some (.inr (.inr x0)), some (.inl x1), some (.inl x2), some (.inl x3), some (.inl x4), some (.inl x5), some (.inl i4), o7, o8, o9] [] H70 = _
                  refine Eq.trans (e1 hG PT_174 k174_618 _ _ _) ?_
                  show G 174 619 [some (.inr (.inr x0)), some (.inl x1), some (.inl x2), some (.inl x3), some (.inl x4), some (.inl x5), some (.inl i4), o7, o8, o9] [.inr (.inr x0)] H70 = _
                  refine Eq.trans (e1 hG PT_174 k174_619 _ _ _) ?_
                  show G 174 620 [some (.inr (.inr x0)), some (.inl x1), some (.inl x2), some (.inl x3), some (.inl x4), some (.inl x5), some (.inl i4), o7, o8, o9] [.inr (.inr x0), .inr (.inr x0)] H70 = _
                  refine Eq.trans (e1 hG PT_174 k174_620 _ _ _) ?_
                  refine bdc fun i71 => ?_
                  show G 174 623 [some (.inr (.inr x0)), some (.inl x1), some (.inl x2), some (.inl x3), some (.inl x4), some (.inl x5), some (.inl i4), o7, o8, o9] [.inl i71, .inr (.inr x0)] H70 = _
                  refine Eq.trans (e1 hG PT_174 k174_623 _ _ _) ?_
                  show G 174 624 [some (.inr (.inr x0)), some (.inl x1), some (.inl x2), some (.inl x3), some (.inl x4), some (.inl x5), some (.inl i4), o7, o8, o9] [.inl 1, .inl i71, .inr (.inr x0)] H70 = _
                  refine Eq.trans (e1 hG PT_174 k174_624 _ _ _) ?_
                  show G 174 625 [some (.inr (.inr x0)), some (.inl x1), some (.inl x2), some (.inl x3), some (.inl x4), some (.inl x5), some (.inl i4), o7, o8, o9] [.inl (i71 + 1), .inr (.inr x0)] H70 = _
                  refine Eq.trans (e1 hG PT_174 k174_625 _ _ _) ?_
                  refine bdc fun H72 => ?_
                  show G 174 628 [some (.inr (.inr x0)), some (.inl x1), some (.inl x2), some (.inl x3), some (.inl x4), some (.inl x5), some (.inl i4), o7, o8, o9] [] H72 = _
                  refine Eq.trans (e1 hG PT_174 k174_628 _ _ _) ?_
                  show G 174 630 [some (.inr (.inr x0)), some (.inl x1), some (.inl x2), some (.inl x3), some (.inl x4), some (.inl x5), some (.inl i4), o7, o8, o9] [.inl x4] H72 = _
                  refine Eq.trans (e1 hG PT_174 k174_630 _ _ _) ?_
                  show G 174 631 [some (.inr (.inr x0)), some (.inl x1), some (.inl x2), some (.inl x3), some (.inl x4), some (.inl x5), some (.inl i4), o7, o8, o9] [.inl 1, .inl x4] H72 = _
                  refine Eq.trans (e1 hG PT_174 k174_631 _ _ _) ?_
                  refine bfc ?_ ?_
                  · show G 174 638 [some (.inr (.inr x0)), some (.inl x1), some (.inl x2), some (.inl x3), some (.inl x4), some (.inl x5), some (.inl i4), o7, o8, o9] [] H72 = _
                    refine Eq.trans (e1 hG PT_174 k174_638 _ _ _) ?_
                    rfl
                  · show G 174 634 [some (.inr (.inr x0)), some (.inl x1), some (.inl x2), some (.inl x3), some (.inl x4), some (.inl x5), some (.inl i4), o7, o8, o9] [] H72 = _
                    refine Eq.trans (e1 hG PT_174 k174_634 _ _ _) ?_
                    show G 174 635 [some (.inr (.inr x0)), some (.inl x1), some (.inl x2), some (.inl x3), some (.inl x4), some (.inl x5), some (.inl i4), o7, o8, o9] [.inl 1] H72 = _
                    refine Eq.trans (e1 hG PT_174 k174_635 _ _ _) ?_
                    rfl
                · show G 174 580 [some (.inr (.inr x0)), some (.inl x1), some (.inl x2), some (.inl x3), some (.inl x4), some (.inl x5), some (.inl i4), o7, o8, o9] [] u60.2 = _
                  refine Eq.trans (e1 hG PT_174 k174_580 _ _ _) ?_
                  show G 174 583 [some (.inr (.inr x0)), some (.inl x1), some (.inl x2), some (.inl x3), some (.inl x4), some (.inl x5), some (.inl i4), o7, o8, o9] [.inl (-1000004)] u60.2 = _
                  exact e1 hG PT_174 k174_583 _ _ _
              · rfl
            · refine bfc ?_ ?_
              · show G 174 437 [some (.inr (.inr x0)), some (.inl x1), some (.inl x2), some (.inl x3), some (.inl x4), some (.inl x5), some (.inl i4), o7, o8, o9] [] H = _
                refine Eq.trans (e1 hG PT_174 k174_437 _ _ _) ?_
                show G 174 438 [some (.inr (.inr x0)), some (.inl x1), some (.inl x2), some (.inl x3), some (.inl x4), some (.inl x5), some (.inl i4), o7, o8, o9] [.inr (.inr x0)] H = _
                refine Eq.trans (e1 hG PT_174 k174_438 _ _ _) ?_
                refine bdc fun r30 => ?_
                show G 174 441 [some (.inr (.inr x0)), some (.inl x1), some (.inl x2), some (.inl x3), some (.inl x4), some (.inl x5), some (.inl i4), o7, o8, o9] [.inr (.inr r30)] H = _
                refine Eq.trans (e1 hG PT_174 k174_441 _ _ _) ?_
                show G 174 442 [some (.inr (.inr x0)), some (.inl x1), some (.inl x2), some (.inl x3), some (.inl x4), some (.inl x5), some (.inl i4), o7, o8, o9] [.inr (.inr x0), .inr (.inr r30)] H = _
                refine Eq.trans (e1 hG PT_174 k174_442 _ _ _) ?_
                refine bdc fun i31 => ?_
                show G 174 445 [some (.inr (.inr x0)), some (.inl x1), some (.inl x2), some (.inl x3), some (.inl x4), some (.inl x5), some (.inl i4), o7, o8, o9] [.inl i31, .inr (.inr r30)] H = _
                refine Eq.trans (e1 hG PT_174 k174_445 _ _ _) ?_
                show G 174 446 [some (.inr (.inr x0)), some (.inl x1), some (.inl x2), some (.inl x3), some (.inl x4), some (.inl x5), some (.inl i4), o7, o8, o9] [.inl 1, .inl i31, .inr (.inr r30)] H = _
                refine Eq.trans (e1 hG PT_174 k174_446 _ _ _) ?_
                show G 174 447 [some (.inr (.inr x0)), some (.inl x1), some (.inl x2), some (.inl x3), some (.inl x4), some (.inl x5), some (.inl i4), o7, o8, o9] [.inl (i31 - 1), .inr (.inr r30)] H = _
                refine Eq.trans (e1 hG PT_174 k174_447 _ _ _) ?_
                refine bdc fun i32 => ?_
                show G 174 448 [some (.inr (.inr x0)), some (.inl x1), some (.inl x2), some (.inl x3), some (.inl x4), some (.inl x5), some (.inl i4), o7, o8, o9] [.inl i32] H = _
                refine Eq.trans (e1 hG PT_174 k174_448 _ _ _) ?_
                show G 174 449 [some (.inr (.inr x0)), some (.inl x1), some (.inl x2), some (.inl x3), some (.inl x4), some (.inl x5), some (.inl i4), o7, o8, o9] [.inr (.inr x0), .inl i32] H = _
                refine Eq.trans (e1 hG PT_174 k174_449 _ _ _) ?_
                refine bdc fun r33 => ?_
                show G 174 452 [some (.inr (.inr x0)), some (.inl x1), some (.inl x2), some (.inl x3), some (.inl x4), some (.inl x5), some (.inl i4), o7, o8, o9] [.inr (.inr r33), .inl i32] H = _
                refine Eq.trans (e1 hG PT_174 k174_452 _ _ _) ?_
                show G 174 453 [some (.inr (.inr x0)), some (.inl x1), some (.inl x2), some (.inl x3), some (.inl x4), some (.inl x5), some (.inl i4), o7, o8, o9] [.inr (.inr x0), .inr (.inr r33), .inl i32] H = _
                refine Eq.trans (e1 hG PT_174 k174_453 _ _ _) ?_
                refine bdc fun i34 => ?_
                show G 174 456 [some (.inr (.inr x0)), some (.inl x1), some (.inl x2), some (.inl x3), some (.inl x4), some (.inl x5), some (.inl i4), o7, o8, o9] [.inl i34, .inr (.inr r33), .inl i32] H = _
                refine Eq.trans (e1 hG PT_174 k174_456 _ _ _) ?_
                show G 174 457 [some (.inr (.inr x0)), some (.inl x1), some (.inl x2), some (.inl x3), some (.inl x4), some (.inl x5), some (.inl i4), o7, o8, o9] [.inl 1, .inl i34, .inr (.inr r33), .inl i32] H = _
                refine Eq.trans (e1 hG PT_174 k174_457 _ _ _) ?_
                show G 174 458 [some (.inr (.inr x0)), some (.inl x1), some (.inl x2), some (.inl x3), some (.inl x4), some (.inl x5), some (.inl i4), o7, o8, o9] [.inl (i34 - 1), .inr (.inr r33), .inl i32] H = _
                refine Eq.trans (e1 hG PT_174 k174_458 _ _ _) ?_
                refine bdc fun i35 => ?_
                show G 174 459 [some (.inr (.inr x0)), some (.inl x1), some (.inl x2), some (.inl x3), some (.inl x4), some (.inl x5), some (.inl i4), o7, o8, o9] [.inl i35, .inl i32] H = _
                refine Eq.trans (e1 hG PT_174 k174_459 _ _ _) ?_
                refine bfc ?_ ?_
                · show G 174 540 [some (.inr (.inr x0)), some (.inl x1), some (.inl x2), some (.inl x3), some (.inl x4), some (.inl x5), some (.inl i4), o7, o8, o9] [] H = _
                  refine Eq.trans (e1 hG PT_174 k174_540 _ _ _) ?_
                  show G 174 541 [some (.inr (.inr x0)), some (.inl x1), some (.inl x2), some (.inl x3), some (.inl x4), some (.inl x5), some (.inl i4), o7, o8, o9] [.inr (.inr x0)] H = _
                  refine Eq.trans (e1 hG PT_174 k174_541 _ _ _) ?_
                  show G 174 542 [some (.inr (.inr x0)), some (.inl x1), some (.inl x2), some (.inl x3), some (.inl x4), some (.inl x5), some (.inl i4), o7, o8, o9] [.inr (.inr x0), .inr (.inr x0)] H = _
                  refine Eq.trans (e1 hG PT_174 k174_542 _ _ _) ?_
                  refine bdc fun i36 => ?_
                  show G 174 545 [some (.inr (.inr x0)), some (.inl x1), some (.inl x2), some (.inl x3), some (.inl x4), some (.inl x5), some (.inl i4), o7, o8, o9] [.inl i36, .inr (.inr x0)] H = _
                  refine Eq.trans (e1 hG PT_174 k174_545 _ _ _) ?_
                  show G 174 546 [some (.inr (.inr x0)), some (.inl x1), some (.inl x2), some (.inl x3), some (.inl x4), some (.inl x5), some (.inl i4), o7, o8, o9] [.inl 1, .inl i36, .inr (.inr x0)] H = _
                  refine Eq.trans (e1 hG PT_174 k174_546 _ _ _) ?_
                  show G 174 547 [some (.inr (.inr x0)), some (.inl x1), some (.inl x2), some (.inl x3), some (.inl x4), some (.inl x5), some (.inl i4), o7, o8, o9] [.inl (i36 - 1), .inr (.inr x0)] H = _
                  refine Eq.trans (e1 hG PT_174 k174_547 _ _ _) ?_
                  refine bdc fun H37 => ?_
                  show G 174 550 [some (.inr (.inr x0)), some (.inl x1), some (.inl x2), some (.inl x3), some (.inl x4), some (.inl x5), some (.inl i4), o7, o8, o9] [] H37 = _
                  refine Eq.trans (e1 hG PT_174 k174_550 _ _ _) ?_
                  show G 174 551 [some (.inr (.inr x0)), some (.inl x1), some (.inl x2), some (.inl x3), some (.inl x4), some (.inl x5), some (.inl i4), o7, o8, o9] [.inr (.inr x0)] H37 = _
                  refine Eq.trans (e1 hG PT_174 k174_551 _ _ _) ?_
                  show G 174 552 [some (.inr (.inr x0)), some (.inl x1), some (.inl x2), some (.inl x3), some (.inl x4), some (.inl x5), some (.inl i4), o7, o8, o9] [.inr (.inr x0), .inr (.inr x0)] H37 = _
                  refine Eq.trans (e1 hG PT_174 k174_552 _ _ _) ?_
                  refine bdc fun i38 => ?_
                  show G 174 555 [some (.inr (.inr x0)), some (.inl x1), some (.inl x2), some (.inl x3), some (.inl x4), some (.inl x5), some (.inl i4), o7, o8, o9] [.inl i38, .inr (.inr x0)] H37 = _
                  refine Eq.trans (e1 hG PT_174 k174_555 _ _ _) ?_
                  show G 174 556 [some (.inr (.inr x0)), some (.inl x1), some (.inl x2), some (.inl x3), some (.inl x4), some (.inl x5), some (.inl i4), o7, o8, o9] [.inl 1, .inl i38, .inr (.inr x0)] H37 = _
                  refine Eq.trans (e1 hG PT_174 k174_556 _ _ _) ?_
                  show G 174 557 [some (.inr (.inr x0)), some (.inl x1), some (.inl x2), some (.inl x3), some (.inl x4), some (.inl x5), some (.inl i4), o7, o8, o9] [.inl (i38 - 1), .inr (.inr x0)] H37 = _
                  refine Eq.trans (e1 hG PT_174 k174_557 _ _ _) ?_
                  refine bdc fun H39 => ?_
                  show G 174 560 [some (.inr (.inr x0)), some (.inl x1), some (.inl x2), some (.inl x3), some (.inl x4), some (.inl x5), some (.inl i4), o7, o8, o9] [] H39 = _
                  refine Eq.trans (e1 hG PT_174 k174_560 _ _ _) ?_
                  show G 174 561 [some (.inr (.inr x0)), some (.inl x1), some (.inl x2), some (.inl x3), some (.inl x4), some (.inl x5), some (.inl i4), o7, o8, o9] [.inr (.inr x0)] H39 = _
                  refine Eq.trans (e1 hG PT_174 k174_561 _ _ _) ?_
                  show G 174 562 [some (.inr (.inr x0)), some (.inl x1), some (.inl x2), some (.inl x3), some (.inl x4), some (.inl x5), some (.inl i4), o7, o8, o9] [.inr (.inr x0), .inr (.inr x0)] H39 = _
                  refine Eq.trans (e1 hG PT_174 k174_562 _ _ _) ?_
                  refine bdc fun i40 => ?_
                  show G 174 565 [some (.inr (.inr x0)), some (.inl x1), some (.inl x2), some (.inl x3), some (.inl x4), some (.inl x5), some (.inl i4), o7, o8, o9] [.inl i40, .inr (.inr x0)] H39 = _
                  refine Eq.trans (e1 hG PT_174 k174_565 _ _ _) ?_
                  show G 174 566 [some (.inr (.inr x0)), some (.inl x1), some (.inl x2), some (.inl x3), some (.inl x4), some (.inl x5), some (.inl i4), o7, o8, o9] [.inl 1, .inl i40, .inr (.inr x0)] H39 = _
                  refine Eq.trans (e1 hG PT_174 k174_566 _ _ _) ?_
                  show G 174 567 [some (.inr (.inr x0)), some (.inl x1), some (.inl x2), some (.inl x3), some (.inl x4), some (.inl x5), some (.inl i4), o7, o8, o9] [.inl (i40 + 1), .inr (.inr x0)] H39 = _
                  refine Eq.trans (e1 hG PT_174 k174_567 _ _ _) ?_
                  refine bdc fun H41 => ?_
                  show G 174 570 [some (.inr (.inr x0)), some (.inl x1), some (.inl x2), some (.inl x3), some (.inl x4), some (.inl x5), some (.inl i4), o7, o8, o9] [] H41 = _
                  refine Eq.trans (e1 hG PT_174 k174_570 _ _ _) ?_
                  rfl
                · show G 174 462 [some (.inr (.inr x0)), some (.inl x1), some (.inl x2), some (.inl x3), some (.inl x4), some (.inl x5), some (.inl i4), o7, o8, o9] [] H = _
                  refine Eq.trans (e1 hG PT_174 k174_462 _ _ _) ?_
                  show G 174 463 [some (.inr (.inr x0)), some (.inl x1), some (.inl x2), some (.inl x3), some (.inl x4), some (.inl x5), some (.inl i4), o7, o8, o9] [.inr (.inr x0)] H = _
                  refine Eq.trans (e1 hG PT_174 k174_463 _ _ _) ?_
                  refine bfc ?_ ?_
                  · refine bdc fun u42 => ?_
                    refine bdc fun i43 => ?_
                    show G 174 466 [some (.inr (.inr x0)), some (.inl x1), some (.inl x2), some (.inl x3), some (.inl x4), some (.inl x5), some (.inl i4), o7, o8, o9] [.inl i43] u42.2 = _
                    refine Eq.trans (e1 hG PT_174 k174_466 _ _ _) ?_
                    refine bfc ?_ ?_
                    · show G 174 473 [some (.inr (.inr x0)), some (.inl x1), some (.inl x2), some (.inl x3), some (.inl x4), some (.inl x5), some (.inl i4), o7, o8, o9] [] u42.2 = _
                      refine Eq.trans (e1 hG PT_174 k174_473 _ _ _) ?_
                      show G 174 474 [some (.inr (.inr x0)), some (.inl x1), some (.inl x2), some (.inl x3), some (.inl x4), some (.inl x5), some (.inl i4), o7, o8, o9] [.inr (.inr x0)] u42.2 = _
                      refine Eq.trans (e1 hG PT_174 k174_474 _ _ _) ?_
                      show G 174 475 [some (.inr (.inr x0)), some (.inl x1), some (.inl x2), some (.inl x3), some (.inl x4), some (.inl x5), some (.inl i4), o7, o8, o9] [.inr (.inr x0), .inr (.inr x0)] u42.2 = _
                      refine Eq.trans (e1 hG PT_174 k174_475 _ _ _) ?_
                      refine bdc fun j44 => ?_
                      show G 174 478 [some (.inr (.inr x0)), some (.inl x1), some (.inl x2), some (.inl x3), some (.inl x4), some (.inl x5), some (.inl i4), o7, o8, o9] [.inr (.inl j44), .inr (.inr x0)] u42.2 = _
                      refine Eq.trans (e1 hG PT_174 k174_478 _ _ _) ?_
                      show G 174 479 [some (.inr (.inr x0)), some (.inl x1), some (.inl x2), some (.inl x3), some (.inl x4), some (.inl x5), some (.inl i4), o7, o8, o9] [.inr (.inl 1), .inr (.inl j44), .inr (.inr x0)] u42.2 = _
                      refine Eq.trans (e1 hG PT_174 k174_479 _ _ _) ?_
                      show G 174 480 [some (.inr (.inr x0)), some (.inl x1), some (.inl x2), some (.inl x3), some (.inl x4), some (.inl x5), some (.inl i4), o7, o8, o9] [.inr (.inl (j44 + 1)), .inr (.inr x0)] u42.2 = _
                      refine Eq.trans (e1 hG PT_174 k174_480 _ _ _) ?_
                      refine bdc fun H45 => ?_
                      show G 174 483 [some (.inr (.inr x0)), some (.inl x1), some (.inl x2), some (.inl x3), some (.inl x4), some (.inl x5), some (.inl i4), o7, o8, o9] [] H45 = _
                      refine Eq.trans (e1 hG PT_174 k174_483 _ _ _) ?_
                      show G 174 484 [some (.inr (.inr x0)), some (.inl x1), some (.inl x2), some (.inl x3), some (.inl x4), some (.inl x5), some (.inl i4), o7, o8, o9] [.inr (.inr x0)] H45 = _
                      refine Eq.trans (e1 hG PT_174 k174_484 _ _ _) ?_
                      refine bdc fun r46 => ?_
                      show G 174 487 [some (.inr (.inr x0)), some (.inl x1), some (.inl x2), some (.inl x3), some (.inl x4), some (.inl x5), some (.inl i4), o7, o8, o9] [.inr (.inr r46)] H45 = _
                      refine Eq.trans (e1 hG PT_174 k174_487 _ _ _) ?_
                      show G 174 488 [some (.inr (.inr x0)), some (.inl x1), some (.inl x2), some (.inl x3), some (.inl x4), some (.inl x5), some (.inl i4), o7, o8, o9] [.inr (.inr x0), .inr (.inr r46)] H45 = _
                      refine Eq.trans (e1 hG PT_174 k174_488 _ _ _) ?_
                      refine bdc fun i47 => ?_
                      show G 174 491 [some (.inr (.inr x0)), some (.inl x1), some (.inl x2), some (.inl x3), some (.inl x4), some (.inl x5), some (.inl i4), o7, o8, o9] [.inl i47, .inr (.inr r46)] H45 = _
                      refine Eq.trans (e1 hG PT_174 k174_491 _ _ _) ?_
                      show G 174 492 [some (.inr (.inr x0)), some (.inl x1), some (.inl x2), some (.inl x3), some (.inl x4), some (.inl x5), some (.inl i4), o7, o8, o9] [.inl 1, .inl i47, .inr (.inr r46)] H45 = _
                      refine Eq.trans (e1 hG PT_174 k174_492 _ _ _) ?_
                      show G 174 493 [some (.inr (.inr x0)), some (.inl x1), some (.inl x2), some (.inl x3), some (.inl x4), some (.inl x5), some (.inl i4), o7, o8, o9] [.inl (i47 - 1), .inr (.inr r46)] H45 = _
                      refine Eq.trans (e1 hG PT_174 k174_493 _ _ _) ?_
                      show G 174 494 [some (.inr (.inr x0)), some (.inl x1), some (.inl x2), some (.inl x3), some (.inl x4), some (.inl x5), some (.inl i4), o7, o8, o9] [.inl (i47 - 1), .inr (.inr r46), .inl (i47 - 1), .inr (.inr r46)] H45 = _
                      refine Eq.trans (e1 hG PT_174 k174_494 _ _ _) ?_
                      refine bdc fun i48 => ?_
                      show G 174 495 [some (.inr (.inr x0)), some (.inl x1), some (.inl x2), some (.inl x3), some (.inl x4), some (.inl x5), some (.inl i4), o7, o8, o9] [.inl i48, .inl (i47 - 1), .inr (.inr r46)] H45 = _
                      refine Eq.trans (e1 hG PT_174 k174_495 _ _ _) ?_
                      show G 174 496 [some (.inr (.inr x0)), some (.inl x1), some (.inl x2), some (.inl x3), some (.inl x4), some (.inl x5), some (.inl i4), o7, o8, o9] [.inl 1, .inl i48, .inl (i47 - 1), .inr (.inr r46)] H45 = _
                      refine Eq.trans (e1 hG PT_174 k174_496 _ _ _) ?_
                      show G 174 497 [some (.inr (.inr x0)), some (.inl x1), some (.inl x2), some (.inl x3), some (.inl x4), some (.inl x5), some (.inl i4), o7, o8, o9] [.inl (i48 + 1), .inl (i47 - 1), .inr (.inr r46)] H45 = _
                      refine Eq.trans (e1 hG PT_174 k174_497 _ _ _) ?_
                      refine bdc fun H49 => ?_
                      show G 174 498 [some (.inr (.inr x0)), some (.inl x1), some (.inl x2), some (.inl x3), some (.inl x4), some (.inl x5), some (.inl i4), o7, o8, o9] [] H49 = _
                      refine Eq.trans (e1 hG PT_174 k174_498 _ _ _) ?_
                      show G 174 499 [some (.inr (.inr x0)), some (.inl x1), some (.inl x2), some (.inl x3), some (.inl x4), some (.inl x5), some (.inl i4), o7, o8, o9] [.inr (.inr x0)] H49 = _
                      refine Eq.trans (e1 hG PT_174 k174_499 _ _ _) ?_
                      refine bdc fun r50 => ?_
                      show G 174 502 [some (.inr (.inr x0)), some (.inl x1), some (.inl x2), some (.inl x3), some (.inl x4), some (.inl x5), some (.inl i4), o7, o8, o9] [.inr (.inr r50)] H49 = _
                      refine Eq.trans (e1 hG PT_174 k174_502 _ _ _) ?_
                      show G 174 503 [some (.inr (.inr x0)), some (.inl x1), some (.inl x2), some (.inl x3), some (.inl x4), some (.inl x5), some (.inl i4), o7, o8, o9] [.inr (.inr x0), .inr (.inr r50)] H49 = _
                      refine Eq.trans (e1 hG PT_174 k174_503 _ _ _) ?_
                      refine bdc fun i51 => ?_
                      show G 174 506 [some (.inr (.inr x0)), some (.inl x1), some (.inl x2), some (.inl x3), some (.inl x4), some (.inl x5), some (.inl i4), o7, o8, o9] [.inl i51, .inr (.inr r50)] H49 = _
                      refine Eq.trans (e1 hG PT_174 k174_506 _ _ _) ?_
                      show G 174 507 [some (.inr (.inr x0)), some (.inl x1), some (.inl x2), some (.inl x3), some (.inl x4), some (.inl x5), some (.inl i4), o7, o8, o9] [.inl 1, .inl i51, .inr (.inr r50)] H49 = _
                      refine Eq.trans (e1 hG PT_174 k174_507 _ _ _) ?_
                      show G 174 508 [some (.inr (.inr x0)), some (.inl x1), some (.inl x2), some (.inl x3), some (.inl x4), some (.inl x5), some (.inl i4), o7, o8, o9] [.inl (i51 - 1), .inr (.inr r50)] H49 = _
                      refine Eq.trans (e1 hG PT_174 k174_508 _ _ _) ?_
                      show G 174 509 [some (.inr (.inr x0)), some (.inl x1), some (.inl x2), some (.inl x3), some (.inl x4), some (.inl x5), some (.inl i4), o7, o8, o9] [.inr (.inr x0), .inl (i51 - 1), .inr (.inr r50)] H49 = _
                      refine Eq.trans (e1 hG PT_174 k174_509 _ _ _) ?_
                      refine bdc fun r52 => ?_
                      show G 174 512 [some (.inr (.inr x0)), some (.inl x1), some (.inl x2), some (.inl x3), some (.inl x4), some (.inl x5), some (.inl i4), o7, o8, o9] [.inr (.inr r52), .inl (i51 - 1), .inr (.inr r50)] H49 = _
                      refine Eq.trans (e1 hG PT_174 k174_512 _ _ _) ?_
                      show G 174 513 [some (.inr (.inr x0)), some (.inl x1), some (.inl x2), some (.inl x3), some (.inl x4), some (.inl x5), some (.inl i4), o7, o8, o9] [.inr (.inr x0), .inr (.inr r52), .inl (i51 - 1), .inr (.inr r50)] H49 = _
                      refine Eq.trans (e1 hG PT_174 k174_513 _ _ _) ?_
                      refine bdc fun i53 => ?_
                      show G 174 516 [some (.inr (.inr x0)), some (.inl x1), some (.inl x2), some (.inl x3), some (.inl x4), some (.inl x5), some (.inl i4), o7, o8, o9] [.inl i53, .inr (.inr r52), .inl (i51 - 1), .inr (.inr r50)] H49 = _
                      refine Eq.trans (e1 hG PT_174 k174_516 _ _ _) ?_
                      show G 174 517 [some (.inr (.inr x0)), some (.inl x1), some (.inl x2), some (.inl x3), some (.inl x4), some (.inl x5), some (.inl i4), o7, o8, o9] [.inl 1, .inl i53, .inr (.inr r52), .inl (i51 - 1), .inr (.inr r50)] H49 = _
                      refine Eq.trans (e1 hG PT_174 k174_517 _ _ _) ?_
                      show G 174 518 [some (.inr (.inr x0)), some (.inl x1), some (.inl x2), some (.inl x3), some (.inl x4), some (.inl x5), some (.inl i4), o7, o8, o9] [.inl (i53 - 1), .inr (.inr r52), .inl (i51 - 1), .inr (.inr r50)] H49 = _
                      refine Eq.trans (e1 hG PT_174 k174_518 _ _ _) ?_
                      refine bdc fun i54 => ?_
                      show G 174 519 [some (.inr (.inr x0)), some (.inl x1), some (.inl x2), some (.inl x3), some (.inl x4), some (.inl x5), some (.inl i4), o7, o8, o9] [.inl i54, .inl (i51 - 1), .inr (.inr r50)] H49 = _
                      refine Eq.trans (e1 hG PT_174 k174_519 _ _ _) ?_
                      refine bdc fun H55 => ?_
                      show G 174 520 [some (.inr (.inr x0)), some (.inl x1), some (.inl x2), some (.inl x3), some (.inl x4), some (.inl x5), some (.inl i4), o7, o8, o9] [] H55 = _
                      refine Eq.trans (e1 hG PT_174 k174_520 _ _ _) ?_
                      show G 174 521 [some (.inr (.inr x0)), some (.inl x1), some (.inl x2), some (.inl x3), some (.inl x4), some (.inl x5), some (.inl i4), o7, o8, o9] [.inr (.inr x0)] H55 = _
                      refine Eq.trans (e1 hG PT_174 k174_521 _ _ _) ?_
                      show G 174 522 [some (.inr (.inr x0)), some (.inl x1), some (.inl x2), some (.inl x3), some (.inl x4), some (.inl x5), some (.inl i4), o7, o8, o9] [.inr (.inr x0), .inr (.inr x0)] H55 = _
                      refine Eq.trans (e1 hG PT_174 k174_522 _ _ _) ?_
                      refine bdc fun r56 => ?_
                      show G 174 525 [some (.inr (.inr x0)), some (.inl x1), some (.inl x2), some (.inl x3), some (.inl x4), some (.inl x5), some (.inl i4), o7, o8, o9] [.inr (.inr r56), .inr (.inr x0)] H55 = _
                      refine Eq.trans (e1 hG PT_174 k174_525 _ _ _) ?_
                      show G 174 526 [some (.inr (.inr x0)), some (.inl x1), some (.inl x2), some (.inl x3), some (.inl x4), some (.inl x5), some (.inl i4), o7, o8, o9] [.inr (.inr x0), .inr (.inr r56), .inr (.inr x0)] H55 = _
                      refine Eq.trans (e1 hG PT_174 k174_526 _ _ _) ?_
                      refine bdc fun i57 => ?_
                      show G 174 529 [some (.inr (.inr x0)), some (.inl x1), some (.inl x2), some (.inl x3), some (.inl x4), some (.inl x5), some (.inl i4), o7, o8, o9] [.inl i57, .inr (.inr r56), .inr (.inr x0)] H55 = _
                      refine Eq.trans (e1 hG PT_174 k174_529 _ _ _) ?_
                      show G 174 530 [some (.inr (.inr x0)), some (.inl x1), some (.inl x2), some (.inl x3), some (.inl x4), some (.inl x5), some (.inl i4), o7, o8, o9] [.inl 1, .inl i57, .inr (.inr r56), .inr (.inr x0)] H55 = _
                      refine Eq.trans (e1 hG PT_174 k174_530 _ _ _) ?_
                      show G 174 531 [some (.inr (.inr x0)), some (.inl x1), some (.inl x2), some (.inl x3), some (.inl x4), some (.inl x5), some (.inl i4), o7, o8, o9] [.inl (i57 - 1), .inr (.inr r56), .inr (.inr x0)] H55 = _
                      refine Eq.trans (e1 hG PT_174 k174_531 _ _ _) ?_
                      refine bdc fun i58 => ?_
                      show G 174 532 [some (.inr (.inr x0)), some (.inl x1), some (.inl x2), some (.inl x3), some (.inl x4), some (.inl x5), some (.inl i4), o7, o8, o9] [.inl i58, .inr (.inr x0)] H55 = _
                      refine Eq.trans (e1 hG PT_174 k174_532 _ _ _) ?_
                      show G 174 533 [some (.inr (.inr x0)), some (.inl x1), some (.inl x2), some (.inl x3), some (.inl x4), some (.inl x5), some (.inl i4), o7, o8, o9] [.inl 1, .inl i58, .inr (.inr x0)] H55 = _
                      refine Eq.trans (e1 hG PT_174 k174_533 _ _ _) ?_
                      show G 174 534 [some (.inr (.inr x0)), some (.inl x1), some (.inl x2), some (.inl x3), some (.inl x4), some (.inl x5), some (.inl i4), o7, o8, o9] [.inl (i58 + 1), .inr (.inr x0)] H55 = _
                      refine Eq.trans (e1 hG PT_174 k174_534 _ _ _) ?_
                      refine bdc fun H59 => ?_
                      show G 174 537 [some (.inr (.inr x0)), some (.inl x1), some (.inl x2), some (.inl x3), some (.inl x4), some (.inl x5), some (.inl i4), o7, o8, o9] [] H59 = _
                      refine Eq.trans (e1 hG PT_174 k174_537 _ _ _) ?_
                      rfl
                    · show G 174 469 [some (.inr (.inr x0)), some (.inl x1), some (.inl x2), some (.inl x3), some (.inl x4), some (.inl x5), some (.inl i4), o7, o8, o9] [] u42.2 = _
                      refine Eq.trans (e1 hG PT_174 k174_469 _ _ _) ?_
                      show G 174 472 [some (.inr (.inr x0)), some (.inl x1), some (.inl x2), some (.inl x3), some (.inl x4), some (.inl x5), some (.inl i4), o7, o8, o9] [.inl (-1000004)] u42.2 = _
                      exact e1 hG PT_174 k174_472 _ _ _
                  · rfl
              · refine bfc ?_ ?_
                · show G 174 712 [some (.inr (.inr x0)), some (.inl x1), some (.inl x2), some (.inl x3), some (.inl x4), some (.inl x5), some (.inl i4), o7, o8, o9] [] H = _
                  refine Eq.trans (e1 hG PT_174 k174_712 _ _ _) ?_
                  show G 174 714 [some (.inr (.inr x0)), some (.inl x1), some (.inl x2), some (.inl x3), some (.inl x4), some (.inl x5), some (.inl i4), o7, o8, o9] [.inl x4] H = _
                  refine Eq.trans (e1 hG PT_174 k174_714 _ _ _) ?_
                  show G 174 715 [some (.inr (.inr x0)), some (.inl x1), some (.inl x2), some (.inl x3), some (.inl x4), some (.inl x5), some (.inl i4), o7, o8, o9] [.inl 2, .inl x4] H = _
                  refine Eq.trans (e1 hG PT_174 k174_715 _ _ _) ?_
                  refine bfc ?_ ?_
                  · show G 174 761 [some (.inr (.inr x0)), some (.inl x1), some (.inl x2), some (.inl x3), some (.inl x4), some (.inl x5), some (.inl i4), o7, o8, o9] [] H = _
                    refine Eq.trans (e1 hG PT_174 k174_761 _ _ _) ?_
                    show G 174 762 [some (.inr (.inr x0)), some (.inl x1), some (.inl x2), some (.inl x3), some (.inl x4), some (.inl x5), some (.inl i4), o7, o8, o9] [.inr (.inr x0)] H = _
                    refine Eq.trans (e1 hG PT_174 k174_762 _ _ _) ?_
                    show G 174 763 [some (.inr (.inr x0)), some (.inl x1), some (.inl x2), some (.inl x3), some (.inl x4), some (.inl x5), some (.inl i4), o7, o8, o9] [.inr (.inr x0), .inr (.inr x0)] H = _
                    refine Eq.trans (e1 hG PT_174 k174_763 _ _ _) ?_
                    show G 174 764 [some (.inr (.inr x0)), some (.inl x1), some (.inl x2), some (.inl x3), some (.inl x4), some (.inl x5), some (.inl i4), o7, o8, o9] [.inr (.inr x0), .inr (.inr x0), .inr (.inr x0)] H = _
                    refine Eq.trans (e1 hG PT_174 k174_764 _ _ _) ?_
                    refine bdc fun r14 => ?_
                    show G 174 767 [some (.inr (.inr x0)), some (.inl x1), some (.inl x2), some (.inl x3), some (.inl x4), some (.inl x5), some (.inl i4), o7, o8, o9] [.inr (.inr r14), .inr (.inr x0), .inr (.inr x0)] H = _
                    refine Eq.trans (e1 hG PT_174 k174_767 _ _ _) ?_
                    show G 174 768 [some (.inr (.inr x0)), some (.inl x1), some (.inl x2), some (.inl x3), some (.inl x4), some (.inl x5), some (.inl i4), o7, o8, o9] [.inr (.inr x0), .inr (.inr r14), .inr (.inr x0), .inr (.inr x0)] H = _
                    refine Eq.trans (e1 hG PT_174 k174_768 _ _ _) ?_
                    refine bdc fun i15 => ?_
                    show G 174 771 [some (.inr (.inr x0)), some (.inl x1), some (.inl x2), some (.inl x3), some (.inl x4), some (.inl x5), some (.inl i4), o7, o8, o9] [.inl i15, .inr (.inr r14), .inr (.inr x0), .inr (.inr x0)] H = _
                    refine Eq.trans (e1 hG PT_174 k174_771 _ _ _) ?_
                    show G 174 772 [some (.inr (.inr x0)), some (.inl x1), some (.inl x2), some (.inl x3), some (.inl x4), some (.inl x5), some (.inl i4), o7, o8, o9] [.inl 1, .inl i15, .inr (.inr r14), .inr (.inr x0), .inr (.inr x0)] H = _
                    refine Eq.trans (e1 hG PT_174 k174_772 _ _ _) ?_
                    show G 174 773 [some (.inr (.inr x0)), some (.inl x1), some (.inl x2), some (.inl x3), some (.inl x4), some (.inl x5), some (.inl i4), o7, o8, o9] [.inl (i15 - 1), .inr (.inr r14), .inr (.inr x0), .inr (.inr x0)] H = _
                    refine Eq.trans (e1 hG PT_174 k174_773 _ _ _) ?_
                    refine bdc fun i16 => ?_
                    show G 174 774 [some (.inr (.inr x0)), some (.inl x1), some (.inl x2), some (.inl x3), some (.inl x4), some (.inl x5), some (.inl i4), o7, o8, o9] [.inl i16, .inr (.inr x0), .inr (.inr x0)] H = _
                    refine Eq.trans (e1 hG PT_174 k174_774 _ _ _) ?_
                    show G 174 776 [some (.inr (.inr x0)), some (.inl x1), some (.inl x2), some (.inl x3), some (.inl x4), some (.inl x5), some (.inl i4), o7, o8, o9] [.inl 8, .inl i16, .inr (.inr x0), .inr (.inr x0)] H = _
                    refine Eq.trans (e1 hG PT_174 k174_776 _ _ _) ?_
                    refine bfc ?_ ?_
                    · refine bdc fun u17 => ?_
                      refine bdc fun i18 => ?_
                      show G 174 779 [some (.inr (.inr x0)), some (.inl x1), some (.inl x2), some (.inl x3), some (.inl x4), some (.inl x5), some (.inl i4), o7, o8, o9] [.inl i18, .inr (.inr x0)] u17.2 = _
                      refine Eq.trans (e1 hG PT_174 k174_779 _ _ _) ?_
                      refine bdc fun H19 => ?_
                      show G 174 782 [some (.inr (.inr x0)), some (.inl x1), some (.inl x2), some (.inl x3), some (.inl x4), some (.inl x5), some (.inl i4), o7, o8, o9] [] H19 = _
                      refine Eq.trans (e1 hG PT_174 k174_782 _ _ _) ?_
                      rfl
                    · rfl
                  · show G 174 718 [some (.inr (.inr x0)), some (.inl x1), some (.inl x2), some (.inl x3), some (.inl x4), some (.inl x5), some (.inl i4), o7, o8, o9] [] H = _
                    refine Eq.trans (e1 hG PT_174 k174_718 _ _ _) ?_
                    show G 174 719 [some (.inr (.inr x0)), some (.inl x1), some (.inl x2), some (.inl x3), some (.inl x4), some (.inl x5), some (.inl i4), o7, o8, o9] [.inr (.inr x0)] H = _
                    refine Eq.trans (e1 hG PT_174 k174_719 _ _ _) ?_
                    refine bdc fun r20 => ?_
                    show G 174 722 [some (.inr (.inr x0)), some (.inl x1), some (.inl x2), some (.inl x3), some (.inl x4), some (.inl x5), some (.inl i4), o7, o8, o9] [.inr (.inr r20)] H = _
                    refine Eq.trans (e1 hG PT_174 k174_722 _ _ _) ?_
                    show G 174 723 [some (.inr (.inr x0)), some (.inl x1), some (.inl x2), some (.inl x3), some (.inl x4), some (.inl x5), some (.inl i4), o7, o8, o9] [.inr (.inr x0), .inr (.inr r20)] H = _
                    refine Eq.trans (e1 hG PT_174 k174_723 _ _ _) ?_
                    refine bdc fun i21 => ?_
                    show G 174 726 [some (.inr (.inr x0)), some (.inl x1), some (.inl x2), some (.inl x3), some (.inl x4), some (.inl x5), some (.inl i4), o7, o8, o9] [.inl i21, .inr (.inr r20)] H = _
                    refine Eq.trans (e1 hG PT_174 k174_726 _ _ _) ?_
                    show G 174 727 [some (.inr (.inr x0)), some (.inl x1), some (.inl x2), some (.inl x3), some (.inl x4), some (.inl x5), some (.inl i4), o7, o8, o9] [.inl 1, .inl i21, .inr (.inr r20)] H = _
                    refine Eq.trans (e1 hG PT_174 k174_727 _ _ _) ?_
                    show G 174 728 [some (.inr (.inr x0)), some (.inl x1), some (.inl x2), some (.inl x3), some (.inl x4), some (.inl x5), some (.inl i4), o7, o8, o9] [.inl (i21 - 1), .inr (.inr r20)] H = _
                    refine Eq.trans (e1 hG PT_174 k174_728 _ _ _) ?_
                    show G 174 729 [some (.inr (.inr x0)), some (.inl x1), some (.inl x2), some (.inl x3), some (.inl x4), some (.inl x5), some (.inl i4), o7, o8, o9] [.inr (.inr x0), .inl (i21 - 1), .inr (.inr r20)] H = _
                    refine Eq.trans (e1 hG PT_174 k174_729 _ _ _) ?_
                    refine bdc fun j22 => ?_
                    show G 174 732 [some (.inr (.inr x0)), some (.inl x1), some (.inl x2), some (.inl x3), some (.inl x4), some (.inl x5), some (.inl i4), o7, o8, o9] [.inr (.inl j22), .inl (i21 - 1), .inr (.inr r20)] H = _
                    refine Eq.trans (e1 hG PT_174 k174_732 _ _ _) ?_
                    refine bdc fun H23 => ?_
                    show G 174 733 [some (.inr (.inr x0)), some (.inl x1), some (.inl x2), some (.inl x3), some (.inl x4), some (.inl x5), some (.inl i4), o7, o8, o9] [] H23 = _
                    refine Eq.trans (e1 hG PT_174 k174_733 _ _ _) ?_
                    show G 174 734 [some (.inr (.inr x0)), some (.inl x1), some (.inl x2), some (.inl x3), some (.inl x4), some (.inl x5), some (.inl i4), o7, o8, o9] [.inr (.inr x0)] H23 = _
                    refine Eq.trans (e1 hG PT_174 k174_734 _ _ _) ?_
                    show G 174 735 [some (.inr (.inr x0)), some (.inl x1), some (.inl x2), some (.inl x3), some (.inl x4), some (.inl x5), some (.inl i4), o7, o8, o9] [.inr (.inr x0), .inr (.inr x0)] H23 = _
                    refine Eq.trans (e1 hG PT_174 k174_735 _ _ _) ?_
                    refine bdc fun r24 => ?_
                    show G 174 738 [some (.inr (.inr x0)), some (.inl x1), some (.inl x2), some (.inl x3), some (.inl x4), some (.inl x5), some (.inl i4), o7, o8, o9] [.inr (.inr r24), .inr (.inr x0)] H23 = _
                    refine Eq.trans (e1 hG PT_174 k174_738 _ _ _) ?_
                    show G 174 739 [some (.inr (.inr x0)), some (.inl x1), some (.inl x2), some (.inl x3), some (.inl x4), some (.inl x5), some (.inl i4), o7, o8, o9] [.inr (.inr x0), .inr (.inr r24), .inr (.inr x0)] H23 = _
                    refine Eq.trans (e1 hG PT_174 k174_739 _ _ _) ?_
                    refine bdc fun i25 => ?_
                    show G 174 742 [some (.inr (.inr x0)), some (.inl x1), some (.inl x2), some (.inl x3), some (.inl x4), some (.inl x5), some (.inl i4), o7, o8, o9] [.inl i25, .inr (.inr r24), .inr (.inr x0)] H23 = _
                    refine Eq.trans (e1 hG PT_174 k174_742 _ _ _) ?_
                    show G 174 743 [some (.inr (.inr x0)), some (.inl x1), some (.inl x2), some (.inl x3), some (.inl x4), some (.inl x5), some (.inl i4), o7, o8, o9] [.inl 1, .inl i25, .inr (.inr r24), .inr (.inr x0)] H23 = _
                    refine Eq.trans (e1 hG PT_174 k174_743 _ _ _) ?_
                    show G 174 744 [some (.inr (.inr x0)), some (.inl x1), some (.inl x2), some (.inl x3), some (.inl x4), some (.inl x5), some (.inl i4), o7, o8, o9] [.inl (i25 - 1), .inr (.inr r24), .inr (.inr x0)] H23 = _
                    refine Eq.trans (e1 hG PT_174 k174_744 _ _ _) ?_
                    refine bdc fun j26 => ?_
                    show G 174 745 [some (.inr (.inr x0)), some (.inl x1), some (.inl x2), some (.inl x3), some (.inl x4), some (.inl x5), some (.inl i4), o7, o8, o9] [.inr (.inl j26), .inr (.inr x0)] H23 = _
                    refine Eq.trans (e1 hG PT_174 k174_745 _ _ _) ?_
                    refine bdc fun H27 => ?_
                    show G 174 748 [some (.inr (.inr x0)), some (.inl x1), some (.inl x2), some (.inl x3), some (.inl x4), some (.inl x5), some (.inl i4), o7, o8, o9] [] H27 = _
                    refine Eq.trans (e1 hG PT_174 k174_748 _ _ _) ?_
                    show G 174 749 [some (.inr (.inr x0)), some (.inl x1), some (.inl x2), some (.inl x3), some (.inl x4), some (.inl x5), some (.inl i4), o7, o8, o9] [.inr (.inr x0)] H27 = _
                    refine Eq.trans (e1 hG PT_174 k174_749 _ _ _) ?_
                    show G 174 750 [some (.inr (.inr x0)), some (.inl x1), some (.inl x2), some (.inl x3), some (.inl x4), some (.inl x5), some (.inl i4), o7, o8, o9] [.inr (.inr x0), .inr (.inr x0)] H27 = _
                    refine Eq.trans (e1 hG PT_174 k174_750 _ _ _) ?_
                    refine bdc fun i28 => ?_
                    show G 174 753 [some (.inr (.inr x0)), some (.inl x1), some (.inl x2), some (.inl x3), some (.inl x4), some (.inl x5), some (.inl i4), o7, o8, o9] [.inl i28, .inr (.inr x0)] H27 = _
                    refine Eq.trans (e1 hG PT_174 k174_753 _ _ _) ?_
                    show G 174 754 [some (.inr (.inr x0)), some (.inl x1), some (.inl x2), some (.inl x3), some (.inl x4), some (.inl x5), some (.inl i4), o7, o8, o9] [.inl 1, .inl i28, .inr (.inr x0)] H27 = _
                    refine Eq.trans (e1 hG PT_174 k174_754 _ _ _) ?_
                    show G 174 755 [some (.inr (.inr x0)), some (.inl x1), some (.inl x2), some (.inl x3), some (.inl x4), some (.inl x5), some (.inl i4), o7, o8, o9] [.inl (i28 + 1), .inr (.inr x0)] H27 = _
                    refine Eq.trans (e1 hG PT_174 k174_755 _ _ _) ?_
                    refine bdc fun H29 => ?_
                    show G 174 758 [some (.inr (.inr x0)), some (.inl x1), some (.inl x2), some (.inl x3), some (.inl x4), some (.inl x5), some (.inl i4), o7, o8, o9] [] H29 = _
                    refine Eq.trans (e1 hG PT_174 k174_758 _ _ _) ?_
                    rfl
                · refine bfc ?_ ?_
                  · show G 174 785 [some (.inr (.inr x0)), some (.inl x1), some (.inl x2), some (.inl x3), some (.inl x4), some (.inl x5), some (.inl i4), o7, o8, o9] [] H = _
                    refine Eq.trans (e1 hG PT_174 k174_785 _ _ _) ?_
                    show G 174 786 [some (.inr (.inr x0)), some (.inl x1), some (.inl x2), some (.inl x3), some (.inl x4), some (.inl x5), some (.inl i4), o7, o8, o9] [.inr (.inr x0)] H = _
                    refine Eq.trans (e1 hG PT_174 k174_786 _ _ _) ?_
                    show G 174 787 [some (.inr (.inr x0)), some (.inl x1), some (.inl x2), some (.inl x3), some (.inl x4), some (.inl x5), some (.inl i4), o7, o8, o9] [.inr (.inr x0), .inr (.inr x0)] H = _
                    refine Eq.trans (e1 hG PT_174 k174_787 _ _ _) ?_
                    refine bdc fun i7 => ?_
                    show G 174 790 [some (.inr (.inr x0)), some (.inl x1), some (.inl x2), some (.inl x3), some (.inl x4), some (.inl x5), some (.inl i4), o7, o8, o9] [.inl i7, .inr (.inr x0)] H = _
                    refine Eq.trans (e1 hG PT_174 k174_790 _ _ _) ?_
                    show G 174 791 [some (.inr (.inr x0)), some (.inl x1), some (.inl x2), some (.inl x3), some (.inl x4), some (.inl x5), some (.inl i4), o7, o8, o9] [.inl 1, .inl i7, .inr (.inr x0)] H = _
                    refine Eq.trans (e1 hG PT_174 k174_791 _ _ _) ?_
                    show G 174 792 [some (.inr (.inr x0)), some (.inl x1), some (.inl x2), some (.inl x3), some (.inl x4), some (.inl x5), some (.inl i4), o7, o8, o9] [.inl (i7 - 1), .inr (.inr x0)] H = _
                    refine Eq.trans (e1 hG PT_174 k174_792 _ _ _) ?_
                    refine bdc fun H8 => ?_
                    show G 174 795 [some (.inr (.inr x0)), some (.inl x1), some (.inl x2), some (.inl x3), some (.inl x4), some (.inl x5), some (.inl i4), o7, o8, o9] [] H8 = _
                    refine Eq.trans (e1 hG PT_174 k174_795 _ _ _) ?_
                    show G 174 797 [some (.inr (.inr x0)), some (.inl x1), some (.inl x2), some (.inl x3), some (.inl x4), some (.inl x5), some (.inl i4), o7, o8, o9] [.inl x4] H8 = _
                    refine Eq.trans (e1 hG PT_174 k174_797 _ _ _) ?_
                    show G 174 798 [some (.inr (.inr x0)), some (.inl x1), some (.inl x2), some (.inl x3), some (.inl x4), some (.inl x5), some (.inl i4), o7, o8, o9] [.inl 2, .inl x4] H8 = _
                    refine Eq.trans (e1 hG PT_174 k174_798 _ _ _) ?_
                    refine bfc ?_ ?_
                    · rfl
                    · show G 174 801 [some (.inr (.inr x0)), some (.inl x1), some (.inl x2), some (.inl x3), some (.inl x4), some (.inl x5), some (.inl i4), o7, o8, o9] [] H8 = _
                      refine Eq.trans (e1 hG PT_174 k174_801 _ _ _) ?_
                      show G 174 802 [some (.inr (.inr x0)), some (.inl x1), some (.inl x2), some (.inl x3), some (.inl x4), some (.inl x5), some (.inl i4), o7, o8, o9] [.inr (.inr x0)] H8 = _
                      refine Eq.trans (e1 hG PT_174 k174_802 _ _ _) ?_
                      refine bdc fun r9 => ?_
                      show G 174 805 [some (.inr (.inr x0)), some (.inl x1), some (.inl x2), some (.inl x3), some (.inl x4), some (.inl x5), some (.inl i4), o7, o8, o9] [.inr (.inr r9)] H8 = _
                      refine Eq.trans (e1 hG PT_174 k174_805 _ _ _) ?_
                      show G 174 806 [some (.inr (.inr x0)), some (.inl x1), some (.inl x2), some (.inl x3), some (.inl x4), some (.inl x5), some (.inl i4), o7, o8, o9] [.inr (.inr x0), .inr (.inr r9)] H8 = _
                      refine Eq.trans (e1 hG PT_174 k174_806 _ _ _) ?_
                      refine bdc fun i10 => ?_
                      show G 174 809 [some (.inr (.inr x0)), some (.inl x1), some (.inl x2), some (.inl x3), some (.inl x4), some (.inl x5), some (.inl i4), o7, o8, o9] [.inl i10, .inr (.inr r9)] H8 = _
                      refine Eq.trans (e1 hG PT_174 k174_809 _ _ _) ?_
                      refine bdc fun j11 => ?_
                      show G 174 810 [some (.inr (.inr x0)), some (.inl x1), some (.inl x2), some (.inl x3), some (.inl x4), some (.inl x5), some (.inl i4), o7, o8, o9] [.inr (.inl j11)] H8 = _
                      refine Eq.trans (e1 hG PT_174 k174_810 _ _ _) ?_
                      show G 174 812 [some (.inr (.inr x0)), some (.inl x1), some (.inl x2), some (.inl x3), some (.inl x4), some (.inl x5), some (.inl i4), some (.inr (.inl j11)), none, o9] [] H8 = _
                      refine Eq.trans (e1 hG PT_174 k174_812 _ _ _) ?_
                      show G 174 813 [some (.inr (.inr x0)), some (.inl x1), some (.inl x2), some (.inl x3), some (.inl x4), some (.inl x5), some (.inl i4), some (.inr (.inl j11)), none, o9] [.inr (.inr x0)] H8 = _
                      refine Eq.trans (e1 hG PT_174 k174_813 _ _ _) ?_
                      show G 174 815 [some (.inr (.inr x0)), some (.inl x1), some (.inl x2), some (.inl x3), some (.inl x4), some (.inl x5), some (.inl i4), some (.inr (.inl j11)), none, o9] [.inl x4, .inr (.inr x0)] H8 = _
                      refine Eq.trans (e1 hG PT_174 k174_815 _ _ _) ?_
                      show G 174 816 [some (.inr (.inr x0)), some (.inl x1), some (.inl x2), some (.inl x3), some (.inl x4), some (.inl x5), some (.inl i4), some (.inr (.inl j11)), none, o9] [.inl 3, .inl x4, .inr (.inr x0)] H8 = _
                      refine Eq.trans (e1 hG PT_174 k174_816 _ _ _) ?_
                      refine bfc ?_ ?_
                      · show G 174 832 [some (.inr (.inr x0)), some (.inl x1), some (.inl x2), some (.inl x3), some (.inl x4), some (.inl x5), some (.inl i4), some (.inr (.inl j11)), none, o9] [.inr (.inr x0)] H8 = _
                        refine Eq.trans (e1 hG PT_174 k174_832 _ _ _) ?_
                        show G 174 834 [some (.inr (.inr x0)), some (.inl x1), some (.inl x2), some (.inl x3), some (.inl x4), some (.inl x5), some (.inl i4), some (.inr (.inl j11)), none, o9] [.inr (.inl j11), .inr (.inr x0)] H8 = _
                        refine Eq.trans (e1 hG PT_174 k174_834 _ _ _) ?_
                        show G 174 835 [some (.inr (.inr x0)), some (.inl x1), some (.inl x2), some (.inl x3), some (.inl x4), some (.inl x5), some (.inl i4), some (.inr (.inl j11)), none, o9] [.inr (.inr x0), .inr (.inl j11), .inr (.inr x0)] H8 = _
                        refine Eq.trans (e1 hG PT_174 k174_835 _ _ _) ?_
                        refine bdc fun j12 => ?_
                        show G 174 838 [some (.inr (.inr x0)), some (.inl x1), some (.inl x2), some (.inl x3), some (.inl x4), some (.inl x5), some (.inl i4), some (.inr (.inl j11)), none, o9] [.inr (.inl j12), .inr (.inl j11), .inr (.inr x0)] H8 = _
                        refine Eq.trans (e1 hG PT_174 k174_838 _ _ _) ?_
                        show G 174 839 [some (.inr (.inr x0)), some (.inl x1), some (.inl x2), some (.inl x3), some (.inl x4), some (.inl x5), some (.inl i4), some (.inr (.inl j11)), none, o9] [.inl (lg_cmp j11 j12), .inr (.inr x0)] H8 = _
                        refine Eq.trans (e1 hG PT_174 k174_839 _ _ _) ?_
                        refine bfc ?_ ?_
                        · rfl
                        · rfl
                      · show G 174 819 [some (.inr (.inr x0)), some (.inl x1), some (.inl x2), some (.inl x3), some (.inl x4), some (.inl x5), some (.inl i4), some (.inr (.inl j11)), none, o9] [.inr (.inr x0)] H8 = _
                        refine Eq.trans (e1 hG PT_174 k174_819 _ _ _) ?_
                        show G 174 821 [some (.inr (.inr x0)), some (.inl x1), some (.inl x2), some (.inl x3), some (.inl x4), some (.inl x5), some (.inl i4), some (.inr (.inl j11)), none, o9] [.inr (.inl j11), .inr (.inr x0)] H8 = _
                        refine Eq.trans (e1 hG PT_174 k174_821 _ _ _) ?_
                        show G 174 822 [some (.inr (.inr x0)), some (.inl x1), some (.inl x2), some (.inl x3), some (.inl x4), some (.inl x5), some (.inl i4), some (.inr (.inl j11)), none, o9] [.inr (.inr x0), .inr (.inl j11), .inr (.inr x0)] H8 = _
                        refine Eq.trans (e1 hG PT_174 k174_822 _ _ _) ?_
                        refine bdc fun j13 => ?_
                        show G 174 825 [some (.inr (.inr x0)), some (.inl x1), some (.inl x2), some (.inl x3), some (.inl x4), some (.inl x5), some (.inl i4), some (.inr (.inl j11)), none, o9] [.inr (.inl j13), .inr (.inl j11), .inr (.inr x0)] H8 = _
                        refine Eq.trans (e1 hG PT_174 k174_825 _ _ _) ?_
                        show G 174 826 [some (.inr (.inr x0)), some (.inl x1), some (.inl x2), some (.inl x3), some (.inl x4), some (.inl x5), some (.inl i4), some (.inr (.inl j11)), none, o9] [.inl (lg_cmp j11 j13), .inr (.inr x0)] H8 = _
                        refine Eq.trans (e1 hG PT_174 k174_826 _ _ _) ?_
                        refine bfc ?_ ?_
                        · rfl
                        · show G 174 829 [some (.inr (.inr x0)), some (.inl x1), some (.inl x2), some (.inl x3), some (.inl x4), some (.inl x5), some (.inl i4), some (.inr (.inl j11)), none, o9] [.inr (.inr x0)] H8 = _
                          refine Eq.trans (e1 hG PT_174 k174_829 _ _ _) ?_
                          rfl
                  · rfl
  · show G 174 88 [some (.inr (.inr x0)), some (.inl x1), some (.inl x2), some (.inl x3), some (.inl x4), some (.inl x5), o6, o7, o8, o9] [] H = _
    refine Eq.trans (e1 hG PT_174 k174_88 _ _ _) ?_
    show G 174 89 [some (.inr (.inr x0)), some (.inl x1), some (.inl x2), some (.inl x3), some (.inl x4), some (.inl x5), o6, o7, o8, o9] [.inr (.inr x0)] H = _
    refine Eq.trans (e1 hG PT_174 k174_89 _ _ _) ?_
    show G 174 90 [some (.inr (.inr x0)), some (.inl x1), some (.inl x2), some (.inl x3), some (.inl x4), some (.inl x5), o6, o7, o8, o9] [.inr (.inr x0), .inr (.inr x0)] H = _
    refine Eq.trans (e1 hG PT_174 k174_90 _ _ _) ?_
    refine bdc fun i106 => ?_
    show G 174 93 [some (.inr (.inr x0)), some (.inl x1), some (.inl x2), some (.inl x3), some (.inl x4), some (.inl x5), o6, o7, o8, o9] [.inl i106, .inr (.inr x0)] H = _
    refine Eq.trans (e1 hG PT_174 k174_93 _ _ _) ?_
    show G 174 94 [some (.inr (.inr x0)), some (.inl x1), some (.inl x2), some (.inl x3), some (.inl x4), some (.inl x5), o6, o7, o8, o9] [.inl 1, .inl i106, .inr (.inr x0)] H = _
    refine Eq.trans (e1 hG PT_174 k174_94 _ _ _) ?_
    show G 174 95 [some (.inr (.inr x0)), some (.inl x1), some (.inl x2), some (.inl x3), some (.inl x4), some (.inl x5), o6, o7, o8, o9] [.inl (i106 - 1), .inr (.inr x0)] H = _
    refine Eq.trans (e1 hG PT_174 k174_95 _ _ _) ?_
    refine bdc fun H107 => ?_
    show G 174 98 [some (.inr (.inr x0)), some (.inl x1), some (.inl x2), some (.inl x3), some (.inl x4), some (.inl x5), o6, o7, o8, o9] [] H107 = _
    refine Eq.trans (e1 hG PT_174 k174_98 _ _ _) ?_
    show G 174 99 [some (.inr (.inr x0)), some (.inl x1), some (.inl x2), some (.inl x3), some (.inl x4), some (.inl x5), o6, o7, o8, o9] [.inr (.inr x0)] H107 = _
    refine Eq.trans (e1 hG PT_174 k174_99 _ _ _) ?_
    show G 174 100 [some (.inr (.inr x0)), some (.inl x1), some (.inl x2), some (.inl x3), some (.inl x4), some (.inl x5), o6, o7, o8, o9] [.inr (.inr x0), .inr (.inr x0)] H107 = _
    refine Eq.trans (e1 hG PT_174 k174_100 _ _ _) ?_
    refine bdc fun r108 => ?_
    show G 174 103 [some (.inr (.inr x0)), some (.inl x1), some (.inl x2), some (.inl x3), some (.inl x4), some (.inl x5), o6, o7, o8, o9] [.inr (.inr r108), .inr (.inr x0)] H107 = _
    refine Eq.trans (e1 hG PT_174 k174_103 _ _ _) ?_
    show G 174 104 [some (.inr (.inr x0)), some (.inl x1), some (.inl x2), some (.inl x3), some (.inl x4), some (.inl x5), o6, o7, o8, o9] [.inr (.inr x0), .inr (.inr r108), .inr (.inr x0)] H107 = _
    refine Eq.trans (e1 hG PT_174 k174_104 _ _ _) ?_
    refine bdc fun i109 => ?_
    show G 174 107 [some (.inr (.inr x0)), some (.inl x1), some (.inl x2), some (.inl x3), some (.inl x4), some (.inl x5), o6, o7, o8, o9] [.inl i109, .inr (.inr r108), .inr (.inr x0)] H107 = _
    refine Eq.trans (e1 hG PT_174 k174_107 _ _ _) ?_
    refine bdc fun i110 => ?_
    show G 174 108 [some (.inr (.inr x0)), some (.inl x1), some (.inl x2), some (.inl x3), some (.inl x4), some (.inl x5), o6, o7, o8, o9] [.inl i110, .inr (.inr x0)] H107 = _
    refine Eq.trans (e1 hG PT_174 k174_108 _ _ _) ?_
    show G 174 109 [some (.inr (.inr x0)), some (.inl x1), some (.inl x2), some (.inl x3), some (.inl x4), some (.inl x5), o6, o7, o8, o9] [.inl 1, .inl i110, .inr (.inr x0)] H107 = _
    refine Eq.trans (e1 hG PT_174 k174_109 _ _ _) ?_
    show G 174 110 [some (.inr (.inr x0)), some (.inl x1), some (.inl x2), some (.inl x3), some (.inl x4), some (.inl x5), o6, o7, o8, o9] [.inl (i110 + 1), .inr (.inr x0)] H107 = _
    refine Eq.trans (e1 hG PT_174 k174_110 _ _ _) ?_
    refine bdc fun H111 => ?_
    show G 174 113 [some (.inr (.inr x0)), some (.inl x1), some (.inl x2), some (.inl x3), some (.inl x4), some (.inl x5), o6, o7, o8, o9] [] H111 = _
    refine Eq.trans (e1 hG PT_174 k174_113 _ _ _) ?_
    show G 174 114 [some (.inr (.inr x0)), some (.inl x1), some (.inl x2), some (.inl x3), some (.inl x4), some (.inl x5), o6, o7, o8, o9] [.inr (.inr x0)] H111 = _
    refine Eq.trans (e1 hG PT_174 k174_114 _ _ _) ?_
    refine bdc fun r112 => ?_
    show G 174 117 [some (.inr (.inr x0)), some (.inl x1), some (.inl x2), some (.inl x3), some (.inl x4), some (.inl x5), o6, o7, o8, o9] [.inr (.inr r112)] H111 = _
    refine Eq.trans (e1 hG PT_174 k174_117 _ _ _) ?_
    show G 174 118 [some (.inr (.inr x0)), some (.inl x1), some (.inl x2), some (.inl x3), some (.inl x4), some (.inl x5), o6, o7, o8, o9] [.inr (.inr x0), .inr (.inr r112)] H111 = _
    refine Eq.trans (e1 hG PT_174 k174_118 _ _ _) ?_
    refine bdc fun i113 => ?_
    show G 174 121 [some (.inr (.inr x0)), some (.inl x1), some (.inl x2), some (.inl x3), some (.inl x4), some (.inl x5), o6, o7, o8, o9] [.inl i113, .inr (.inr r112)] H111 = _
    refine Eq.trans (e1 hG PT_174 k174_121 _ _ _) ?_
    refine bdc fun i114 => ?_
    show G 174 122 [some (.inr (.inr x0)), some (.inl x1), some (.inl x2), some (.inl x3), some (.inl x4), some (.inl x5), o6, o7, o8, o9] [.inl i114] H111 = _
    refine Eq.trans (e1 hG PT_174 k174_122 _ _ _) ?_
    show G 174 124 [some (.inr (.inr x0)), some (.inl x1), some (.inl x2), some (.inl x3), some (.inl x4), some (.inl x5), o6, o7, o8, o9] [.inl 24, .inl i114] H111 = _
    refine Eq.trans (e1 hG PT_174 k174_124 _ _ _) ?_
    show ((if (24 : Int32) = 0 then none else some (i114 / 24))).bind (fun i115 => G 174 125 [some (.inr (.inr x0)), some (.inl x1), some (.inl x2), some (.inl x3), some (.inl x4), some (.inl x5), o6, o7, o8, o9] [.inl i115] H111) = _
    refine bdc (q := (if (24 : Int32) = 0 then none else some (i114 / 24))) fun i115 => ?_
    show G 174 125 [some (.inr (.inr x0)), some (.inl x1), some (.inl x2), some (.inl x3), some (.inl x4), some (.inl x5), o6, o7, o8, o9] [.inl i115] H111 = _
    refine Eq.trans (e1 hG PT_174 k174_125 _ _ _) ?_
    show G 174 127 [some (.inr (.inr x0)), some (.inl x1), some (.inl x2), some (.inl x3), some (.inl x4), some (.inl i115), o6, o7, o8, o9] [] H111 = _
    refine Eq.trans (e1 hG PT_174 k174_127 _ _ _) ?_
    show G 174 128 [some (.inr (.inr x0)), some (.inl x1), some (.inl x2), some (.inl x3), some (.inl x4), some (.inl i115), o6, o7, o8, o9] [.inr (.inr x0)] H111 = _
    refine Eq.trans (e1 hG PT_174 k174_128 _ _ _) ?_
    show G 174 129 [some (.inr (.inr x0)), some (.inl x1), some (.inl x2), some (.inl x3), some (.inl x4), some (.inl i115), o6, o7, o8, o9] [.inr (.inr x0), .inr (.inr x0)] H111 = _
    refine Eq.trans (e1 hG PT_174 k174_129 _ _ _) ?_
    refine bdc fun r116 => ?_
    show G 174 132 [some (.inr (.inr x0)), some (.inl x1), some (.inl x2), some (.inl x3), some (.inl x4), some (.inl i115), o6, o7, o8, o9] [.inr (.inr r116), .inr (.inr x0)] H111 = _
    refine Eq.trans (e1 hG PT_174 k174_132 _ _ _) ?_
    show G 174 134 [some (.inr (.inr x0)), some (.inl x1), some (.inl x2), some (.inl x3), some (.inl x4), some (.inl i115), o6, o7, o8, o9] [.inl 7, .inr (.inr r116), .inr (.inr x0)] H111 = _
    refine Eq.trans (e1 hG PT_174 k174_134 _ _ _) ?_
    show G 174 135 [some (.inr (.inr x0)), some (.inl x1), some (.inl x2), some (.inl x3), some (.inl x4), some (.inl i115), o6, o7, o8, o9] [.inr (.inr x0), .inl 7, .inr (.inr r116), .inr (.inr x0)] H111 = _
    refine Eq.trans (e1 hG PT_174 k174_135 _ _ _) ?_
    refine bdc fun i117 => ?_
    show G 174 138 [some (.inr (.inr x0)), some (.inl x1), some (.inl x2), some (.inl x3), some (.inl x4), some (.inl i115), o6, o7, o8, o9] [.inl i117, .inl 7, .inr (.inr r116), .inr (.inr x0)] H111 = _
    refine Eq.trans (e1 hG PT_174 k174_138 _ _ _) ?_
    show G 174 139 [some (.inr (.inr x0)), some (.inl x1), some (.inl x2), some (.inl x3), some (.inl x4), some (.inl i115), o6, o7, o8, o9] [.inl (7 * i117), .inr (.inr r116), .inr (.inr x0)] H111 = _
    refine Eq.trans (e1 hG PT_174 k174_139 _ _ _) ?_
    refine bdc fun i118 => ?_
    show G 174 140 [some (.inr (.inr x0)), some (.inl x1), some (.inl x2), some (.inl x3), some (.inl x4), some (.inl i115), o6, o7, o8, o9] [.inl i118, .inr (.inr x0)] H111 = _
    refine Eq.trans (e1 hG PT_174 k174_140 _ _ _) ?_
    refine bdc fun H119 => ?_
    show G 174 143 [some (.inr (.inr x0)), some (.inl x1), some (.inl x2), some (.inl x3), some (.inl x4), some (.inl i115), o6, o7, o8, o9] [] H119 = _
    refine Eq.trans (e1 hG PT_174 k174_143 _ _ _) ?_
    show G 174 144 [some (.inr (.inr x0)), some (.inl x1), some (.inl x2), some (.inl x3), some (.inl x4), some (.inl i115), o6, o7, o8, o9] [.inr (.inr x0)] H119 = _
    refine Eq.trans (e1 hG PT_174 k174_144 _ _ _) ?_
    show G 174 145 [some (.inr (.inr x0)), some (.inl x1), some (.inl x2), some (.inl x3), some (.inl x4), some (.inl i115), o6, o7, o8, o9] [.inr (.inr x0), .inr (.inr x0)] H119 = _
    refine Eq.trans (e1 hG PT_174 k174_145 _ _ _) ?_
    refine bdc fun r120 => ?_
    show G 174 148 [some (.inr (.inr x0)), some (.inl x1), some (.inl x2), some (.inl x3), some (.inl x4), some (.inl i115), o6, o7, o8, o9] [.inr (.inr r120), .inr (.inr x0)] H119 = _
    refine Eq.trans (e1 hG PT_174 k174_148 _ _ _) ?_
    show G 174 150 [some (.inr (.inr x0)), some (.inl x1), some (.inl x2), some (.inl x3), some (.inl x4), some (.inl i115), o6, o7, o8, o9] [.inl 7, .inr (.inr r120), .inr (.inr x0)] H119 = _
    refine Eq.trans (e1 hG PT_174 k174_150 _ _ _) ?_
    show G 174 151 [some (.inr (.inr x0)), some (.inl x1), some (.inl x2), some (.inl x3), some (.inl x4), some (.inl i115), o6, o7, o8, o9] [.inr (.inr x0), .inl 7, .inr (.inr r120), .inr (.inr x0)] H119 = _
    refine Eq.trans (e1 hG PT_174 k174_151 _ _ _) ?_
    refine bdc fun i121 => ?_
    show G 174 154 [some (.inr (.inr x0)), some (.inl x1), some (.inl x2), some (.inl x3), some (.inl x4), some (.inl i115), o6, o7, o8, o9] [.inl i121, .inl 7, .inr (.inr r120), .inr (.inr x0)] H119 = _
    refine Eq.trans (e1 hG PT_174 k174_154 _ _ _) ?_
    show G 174 155 [some (.inr (.inr x0)), some (.inl x1), some (.inl x2), some (.inl x3), some (.inl x4), some (.inl i115), o6, o7, o8, o9] [.inl (7 * i121), .inr (.inr r120), .inr (.inr x0)] H119 = _
    refine Eq.trans (e1 hG PT_174 k174_155 _ _ _) ?_
    show G 174 156 [some (.inr (.inr x0)), some (.inl x1), some (.inl x2), some (.inl x3), some (.inl x4), some (.inl i115), o6, o7, o8, o9] [.inl 1, .inl (7 * i121), .inr (.inr r120), .inr (.inr x0)] H119 = _
    refine Eq.trans (e1 hG PT_174 k174_156 _ _ _) ?_
    show G 174 157 [some (.inr (.inr x0)), some (.inl x1), some (.inl x2), some (.inl x3), some (.inl x4), some (.inl i115), o6, o7, o8, o9] [.inl ((7 * i121) + 1), .inr (.inr r120), .inr (.inr x0)] H119 = _
    refine Eq.trans (e1 hG PT_174 k174_157 _ _ _) ?_
    refine bdc fun i122 => ?_
    show G 174 158 [some (.inr (.inr x0)), some (.inl x1), some (.inl x2), some (.inl x3), some (.inl x4), some (.inl i115), o6, o7, o8, o9] [.inl i122, .inr (.inr x0)] H119 = _
    refine Eq.trans (e1 hG PT_174 k174_158 _ _ _) ?_
    refine bdc fun H123 => ?_
    show G 174 161 [some (.inr (.inr x0)), some (.inl x1), some (.inl x2), some (.inl x3), some (.inl x4), some (.inl i115), o6, o7, o8, o9] [] H123 = _
    refine Eq.trans (e1 hG PT_174 k174_161 _ _ _) ?_
    show G 174 162 [some (.inr (.inr x0)), some (.inl x1), some (.inl x2), some (.inl x3), some (.inl x4), some (.inl i115), o6, o7, o8, o9] [.inr (.inr x0)] H123 = _
    refine Eq.trans (e1 hG PT_174 k174_162 _ _ _) ?_
    show G 174 163 [some (.inr (.inr x0)), some (.inl x1), some (.inl x2), some (.inl x3), some (.inl x4), some (.inl i115), o6, o7, o8, o9] [.inr (.inr x0), .inr (.inr x0)] H123 = _
    refine Eq.trans (e1 hG PT_174 k174_163 _ _ _) ?_
    refine bdc fun r124 => ?_
    show G 174 166 [some (.inr (.inr x0)), some (.inl x1), some (.inl x2), some (.inl x3), some (.inl x4), some (.inl i115), o6, o7, o8, o9] [.inr (.inr r124), .inr (.inr x0)] H123 = _
    refine Eq.trans (e1 hG PT_174 k174_166 _ _ _) ?_
    show G 174 168 [some (.inr (.inr x0)), some (.inl x1), some (.inl x2), some (.inl x3), some (.inl x4), some (.inl i115), o6, o7, o8, o9] [.inl 7, .inr (.inr r124), .inr (.inr x0)] H123 = _
    refine Eq.trans (e1 hG PT_174 k174_168 _ _ _) ?_
    show G 174 169 [some (.inr (.inr x0)), some (.inl x1), some (.inl x2), some (.inl x3), some (.inl x4), some (.inl i115), o6, o7, o8, o9] [.inr (.inr x0), .inl 7, .inr (.inr r124), .inr (.inr x0)] H123 = _
    refine Eq.trans (e1 hG PT_174 k174_169 _ _ _) ?_
    refine bdc fun i125 => ?_
    show G 174 172 [some (.inr (.inr x0)), some (.inl x1), some (.inl x2), some (.inl x3), some (.inl x4), some (.inl i115), o6, o7, o8, o9] [.inl i125, .inl 7, .inr (.inr r124), .inr (.inr x0)] H123 = _
    refine Eq.trans (e1 hG PT_174 k174_172 _ _ _) ?_
    show G 174 173 [some (.inr (.inr x0)), some (.inl x1), some (.inl x2), some (.inl x3), some (.inl x4), some (.inl i115), o6, o7, o8, o9] [.inl (7 * i125), .inr (.inr r124), .inr (.inr x0)] H123 = _
    refine Eq.trans (e1 hG PT_174 k174_173 _ _ _) ?_
    show G 174 174 [some (.inr (.inr x0)), some (.inl x1), some (.inl x2), some (.inl x3), some (.inl x4), some (.inl i115), o6, o7, o8, o9] [.inl 2, .inl (7 * i125), .inr (.inr r124), .inr (.inr x0)] H123 = _
    refine Eq.trans (e1 hG PT_174 k174_174 _ _ _) ?_
    show G 174 175 [some (.inr (.inr x0)), some (.inl x1), some (.inl x2), some (.inl x3), some (.inl x4), some (.inl i115), o6, o7, o8, o9] [.inl ((7 * i125) + 2), .inr (.inr r124), .inr (.inr x0)] H123 = _
    refine Eq.trans (e1 hG PT_174 k174_175 _ _ _) ?_
    refine bdc fun i126 => ?_
    show G 174 176 [some (.inr (.inr x0)), some (.inl x1), some (.inl x2), some (.inl x3), some (.inl x4), some (.inl i115), o6, o7, o8, o9] [.inl i126, .inr (.inr x0)] H123 = _
    refine Eq.trans (e1 hG PT_174 k174_176 _ _ _) ?_
    refine bdc fun H127 => ?_
    show G 174 179 [some (.inr (.inr x0)), some (.inl x1), some (.inl x2), some (.inl x3), some (.inl x4), some (.inl i115), o6, o7, o8, o9] [] H127 = _
    refine Eq.trans (e1 hG PT_174 k174_179 _ _ _) ?_
    show G 174 180 [some (.inr (.inr x0)), some (.inl x1), some (.inl x2), some (.inl x3), some (.inl x4), some (.inl i115), o6, o7, o8, o9] [.inl 0] H127 = _
    refine Eq.trans (e1 hG PT_174 k174_180 _ _ _) ?_
    rfl
set_option maxRecDepth 100000 in
theorem b174_182 {G : AG} (hG : FIX G) (x0 : Nat) (x1 : Int32) (x2 : Int32) (x3 : Int32) (x4 : Int32) (x5 : Int32) (x6 : Int32) (o7 : Option AV) (o8 : Option AV) (o9 : Option AV) (H : Hp) : G 174 182 [some (.inr (.inr x0)), some (.inl x1), some (.inl x2), some (.inl x3), some (.inl x4), some (.inl x5), some (.inl x6), o7, o8, o9] [] H = (bif decide ((3 : Int32) ≤ (x6 : Int32)) then G 174 41 [some (.inr (.inr x0)), some (.inl x1), some (.inl x2), some (.inl x3), some (.inl x4), some (.inl x5), some (.inl x6), o7, o8, o9] [] H else (hgR H x0 82).bind fun r1 => (hgR H x0 89).bind fun r2 => (hgI H x0 83).bind fun i3 => (hAI H r2 ((((7 * i3) + 3) + x6))).bind fun i4 => (hSI H r1 x6 i4).bind fun H5 => G 174 182 [some (.inr (.inr x0)), some (.inl x1), some (.inl x2), some (.inl x3), some (.inl x4), some (.inl x5), some (.inl (x6 + 1)), o7, o8, o9] [] H5) := by
  refine Eq.trans (e1 hG PT_174 k174_182 _ _ _) ?_
  show G 174 184 [some (.inr (.inr x0)), some (.inl x1), some (.inl x2), some (.inl x3), some (.inl x4), some (.inl x5), some (.inl x6), o7, o8, o9] [.inl x6] H = _
  refine Eq.trans (e1 hG PT_174 k174_184 _ _ _) ?_
  show G 174 185 [some (.inr (.inr x0)), some (.inl x1), some (.inl x2), some (.inl x3), some (.inl x4), some (.inl x5), some (.inl x6), o7, o8, o9] [.inl 3, .inl x6] H = _
  refine Eq.trans (e1 hG PT_174 k174_185 _ _ _) ?_
  refine bfc ?_ ?_
  · show G 174 218 [some (.inr (.inr x0)), some (.inl x1), some (.inl x2), some (.inl x3), some (.inl x4), some (.inl x5), some (.inl x6), o7, o8, o9] [] H = _
    refine Eq.trans (e1 hG PT_174 k174_218 _ _ _) ?_
    rfl
  · show G 174 188 [some (.inr (.inr x0)), some (.inl x1), some (.inl x2), some (.inl x3), some (.inl x4), some (.inl x5), some (.inl x6), o7, o8, o9] [] H = _
    refine Eq.trans (e1 hG PT_174 k174_188 _ _ _) ?_
    show G 174 189 [some (.inr (.inr x0)), some (.inl x1), some (.inl x2), some (.inl x3), some (.inl x4), some (.inl x5), some (.inl x6), o7, o8, o9] [.inr (.inr x0)] H = _
    refine Eq.trans (e1 hG PT_174 k174_189 _ _ _) ?_
    refine bdc fun r1 => ?_
    show G 174 192 [some (.inr (.inr x0)), some (.inl x1), some (.inl x2), some (.inl x3), some (.inl x4), some (.inl x5), some (.inl x6), o7, o8, o9] [.inr (.inr r1)] H = _
    refine Eq.trans (e1 hG PT_174 k174_192 _ _ _) ?_
    show G 174 194 [some (.inr (.inr x0)), some (.inl x1), some (.inl x2), some (.inl x3), some (.inl x4), some (.inl x5), some (.inl x6), o7, o8, o9] [.inl x6, .inr (.inr r1)] H = _
    refine Eq.trans (e1 hG PT_174 k174_194 _ _ _) ?_
    show G 174 195 [some (.inr (.inr x0)), some (.inl x1), some (.inl x2), some (.inl x3), some (.inl x4), some (.inl x5), some (.inl x6), o7, o8, o9] [.inr (.inr x0), .inl x6, .inr (.inr r1)] H = _
    refine Eq.trans (e1 hG PT_174 k174_195 _ _ _) ?_
    refine bdc fun r2 => ?_
    show G 174 198 [some (.inr (.inr x0)), some (.inl x1), some (.inl x2), some (.inl x3), some (.inl x4), some (.inl x5), some (.inl x6), o7, o8, o9] [.inr (.inr r2), .inl x6, .inr (.inr r1)] H = _
    refine Eq.trans (e1 hG PT_174 k174_198 _ _ _) ?_
    show G 174 200 [some (.inr (.inr x0)), some (.inl x1), some (.inl x2), some (.inl x3), some (.inl x4), some (.inl x5), some (.inl x6), o7, o8, o9] [.inl 7, .inr (.inr r2), .inl x6, .inr (.inr r1)] H = _
    refine Eq.trans (e1 hG PT_174 k174_200 _ _ _) ?_
    show G 174 201 [some (.inr (.inr x0)), some (.inl x1), some (.inl x2), some (.inl x3), some (.inl x4), some (.inl x5), some (.inl x6), o7, o8, o9] [.inr (.inr x0), .inl 7, .inr (.inr r2), .inl x6, .inr (.inr r1)] H = _
    refine Eq.trans (e1 hG PT_174 k174_201 _ _ _) ?_
    refine bdc fun i3 => ?_
    show G 174 204 [some (.inr (.inr x0)), some (.inl x1), some (.inl x2), some (.inl x3), some (.inl x4), some (.inl x5), some (.inl x6), o7, o8, o9] [.inl i3, .inl 7, .inr (.inr r2), .inl x6, .inr (.inr r1)] H = _
    refine Eq.trans (e1 hG PT_174 k174_204 _ _ _) ?_
    show G 174 205 [some (.inr (.inr x0)), some (.inl x1), some (.inl x2), some (.inl x3), some (.inl x4), some (.inl x5), some (.inl x6), o7, o8, o9] [.inl (7 * i3), .inr (.inr r2), .inl x6, .inr (.inr r1)] H = _
    refine Eq.trans (e1 hG PT_174 k174_205 _ _ _) ?_
    show G 174 206 [some (.inr (.inr x0)), some (.inl x1), some (.inl x2), some (.inl x3), some (.inl x4), some (.inl x5), some (.inl x6), o7, o8, o9] [.inl 3, .inl (7 * i3), .inr (.inr r2), .inl x6, .inr (.inr r1)] H = _
    refine Eq.trans (e1 hG PT_174 k174_206 _ _ _) ?_
    show G 174 207 [some (.inr (.inr x0)), some (.inl x1), some (.inl x2), some (.inl x3), some (.inl x4), some (.inl x5), some (.inl x6), o7, o8, o9] [.inl ((7 * i3) + 3), .inr (.inr r2), .inl x6, .inr (.inr r1)] H = _
    refine Eq.trans (e1 hG PT_174 k174_207 _ _ _) ?_
    show G 174 209 [some (.inr (.inr x0)), some (.inl x1), some (.inl x2), some (.inl x3), some (.inl x4), some (.inl x5), some (.inl x6), o7, o8, o9] [.inl x6, .inl ((7 * i3) + 3), .inr (.inr r2), .inl x6, .inr (.inr r1)] H = _
    refine Eq.trans (e1 hG PT_174 k174_209 _ _ _) ?_
    show G 174 210 [some (.inr (.inr x0)), some (.inl x1), some (.inl x2), some (.inl x3), some (.inl x4), some (.inl x5), some (.inl x6), o7, o8, o9] [.inl (((7 * i3) + 3) + x6), .inr (.inr r2), .inl x6, .inr (.inr r1)] H = _
    refine Eq.trans (e1 hG PT_174 k174_210 _ _ _) ?_
    refine bdc fun i4 => ?_
    show G 174 211 [some (.inr (.inr x0)), some (.inl x1), some (.inl x2), some (.inl x3), some (.inl x4), some (.inl x5), some (.inl x6), o7, o8, o9] [.inl i4, .inl x6, .inr (.inr r1)] H = _
    refine Eq.trans (e1 hG PT_174 k174_211 _ _ _) ?_
    refine bdc fun H5 => ?_
    show G 174 212 [some (.inr (.inr x0)), some (.inl x1), some (.inl x2), some (.inl x3), some (.inl x4), some (.inl x5), some (.inl x6), o7, o8, o9] [] H5 = _
    refine Eq.trans (e1 hG PT_174 k174_212 _ _ _) ?_
    show G 174 215 [some (.inr (.inr x0)), some (.inl x1), some (.inl x2), some (.inl x3), some (.inl x4), some (.inl x5), some (.inl (x6 + 1)), o7, o8, o9] [] H5 = _
    refine Eq.trans (e1 hG PT_174 k174_215 _ _ _) ?_
    rfl
set_option maxRecDepth 100000 in
theorem b174_639 {G : AG} (hG : FIX G) (x0 : Nat) (x1 : Int32) (x2 : Int32) (x3 : Int32) (x4 : Int32) (x5 : Int32) (x6 : Int32) (o7 : Option AV) (o8 : Option AV) (o9 : Option AV) (s0 : Int32) (H : Hp) : G 174 639 [some (.inr (.inr x0)), some (.inl x1), some (.inl x2), some (.inl x3), some (.inl x4), some (.inl x5), some (.inl x6), o7, o8, o9] [.inl s0] H = (bif decide ((x4 : Int32) ≠ (2 : Int32)) then G 174 683 [some (.inr (.inr x0)), some (.inl x1), some (.inl x2), some (.inl x3), some (.inl x4), some (.inl x5), some (.inl x6), some (.inl s0), o8, o9] [] H else (hgI H x0 57).bind fun i1 => (hpI H x0 57 (((i1 * 1103515245) + 12345))).bind fun H2 => (hgI H2 x0 57).bind fun i3 => bif decide ((((i3 >>> (16 &&& 31)) &&& 1) : Int32) ≠ (1 : Int32)) then G 174 681 [some (.inr (.inr x0)), some (.inl x1), some (.inl x2), some (.inl x3), some (.inl x4), some (.inl x5), some (.inl x6), some (.inl s0), o8, o9] [.inl 0] H2 else G 174 681 [some (.inr (.inr x0)), some (.inl x1), some (.inl x2), some (.inl x3), some (.inl x4), some (.inl x5), some (.inl x6), some (.inl s0), o8, o9] [.inl 1] H2) := by
  refine Eq.trans (e1 hG PT_174 k174_639 _ _ _) ?_
  show G 174 641 [some (.inr (.inr x0)), some (.inl x1), some (.inl x2), some (.inl x3), some (.inl x4), some (.inl x5), some (.inl x6), some (.inl s0), o8, o9] [] H = _
  refine Eq.trans (e1 hG PT_174 k174_641 _ _ _) ?_
  show G 174 643 [some (.inr (.inr x0)), some (.inl x1), some (.inl x2), some (.inl x3), some (.inl x4), some (.inl x5), some (.inl x6), some (.inl s0), o8, o9] [.inl x4] H = _
  refine Eq.trans (e1 hG PT_174 k174_643 _ _ _) ?_
  show G 174 644 [some (.inr (.inr x0)), some (.inl x1), some (.inl x2), some (.inl x3), some (.inl x4), some (.inl x5), some (.inl x6), some (.inl s0), o8, o9] [.inl 2, .inl x4] H = _
  refine Eq.trans (e1 hG PT_174 k174_644 _ _ _) ?_
  refine bfc ?_ ?_
  · rfl
  · show G 174 647 [some (.inr (.inr x0)), some (.inl x1), some (.inl x2), some (.inl x3), some (.inl x4), some (.inl x5), some (.inl x6), some (.inl s0), o8, o9] [] H = _
    refine Eq.trans (e1 hG PT_174 k174_647 _ _ _) ?_
    show G 174 648 [some (.inr (.inr x0)), some (.inl x1), some (.inl x2), some (.inl x3), some (.inl x4), some (.inl x5), some (.inl x6), some (.inl s0), o8, o9] [.inr (.inr x0)] H = _
    refine Eq.trans (e1 hG PT_174 k174_648 _ _ _) ?_
    show G 174 649 [some (.inr (.inr x0)), some (.inl x1), some (.inl x2), some (.inl x3), some (.inl x4), some (.inl x5), some (.inl x6), some (.inl s0), o8, o9] [.inr (.inr x0), .inr (.inr x0)] H = _
    refine Eq.trans (e1 hG PT_174 k174_649 _ _ _) ?_
    refine bdc fun i1 => ?_
    show G 174 652 [some (.inr (.inr x0)), some (.inl x1), some (.inl x2), some (.inl x3), some (.inl x4), some (.inl x5), some (.inl x6), some (.inl s0), o8, o9] [.inl i1, .inr (.inr x0)] H = _
    refine Eq.trans (e1 hG PT_174 k174_652 _ _ _) ?_
    show G 174 655 [some (.inr (.inr x0)), some (.inl x1), some (.inl x2), some (.inl x3), some (.inl x4), some (.inl x5), some (.inl x6), some (.inl s0), o8, o9] [.inl 1103515245, .inl i1, .inr (.inr x0)] H = _
    refine Eq.trans (e1 hG PT_174 k174_655 _ _ _) ?_
    show G 174 656 [some (.inr (.inr x0)), some (.inl x1), some (.inl x2), some (.inl x3), some (.inl x4), some (.inl x5), some (.inl x6), some (.inl s0), o8, o9] [.inl (i1 * 1103515245), .inr (.inr x0)] H = _
    refine Eq.trans (e1 hG PT_174 k174_656 _ _ _) ?_
    show G 174 659 [some (.inr (.inr x0)), some (.inl x1), some (.inl x2), some (.inl x3), some (.inl x4), some (.inl x5), some (.inl x6), some (.inl s0), o8, o9] [.inl 12345, .inl (i1 * 1103515245), .inr (.inr x0)] H = _
    refine Eq.trans (e1 hG PT_174 k174_659 _ _ _) ?_
    show G 174 660 [some (.inr (.inr x0)), some (.inl x1), some (.inl x2), some (.inl x3), some (.inl x4), some (.inl x5), some (.inl x6), some (.inl s0), o8, o9] [.inl ((i1 * 1103515245) + 12345), .inr (.inr x0)] H = _
    refine Eq.trans (e1 hG PT_174 k174_660 _ _ _) ?_
    refine bdc fun H2 => ?_
    show G 174 663 [some (.inr (.inr x0)), some (.inl x1), some (.inl x2), some (.inl x3), some (.inl x4), some (.inl x5), some (.inl x6), some (.inl s0), o8, o9] [] H2 = _
    refine Eq.trans (e1 hG PT_174 k174_663 _ _ _) ?_
    show G 174 664 [some (.inr (.inr x0)), some (.inl x1), some (.inl x2), some (.inl x3), some (.inl x4), some (.inl x5), some (.inl x6), some (.inl s0), o8, o9] [.inr (.inr x0)] H2 = _
    refine Eq.trans (e1 hG PT_174 k174_664 _ _ _) ?_
    refine bdc fun i3 => ?_
    show G 174 667 [some (.inr (.inr x0)), some (.inl x1), some (.inl x2), some (.inl x3), some (.inl x4), some (.inl x5), some (.inl x6), some (.inl s0), o8, o9] [.inl i3] H2 = _
    refine Eq.trans (e1 hG PT_174 k174_667 _ _ _) ?_
    show G 174 669 [some (.inr (.inr x0)), some (.inl x1), some (.inl x2), some (.inl x3), some (.inl x4), some (.inl x5), some (.inl x6), some (.inl s0), o8, o9] [.inl 16, .inl i3] H2 = _
    refine Eq.trans (e1 hG PT_174 k174_669 _ _ _) ?_
    show G 174 670 [some (.inr (.inr x0)), some (.inl x1), some (.inl x2), some (.inl x3), some (.inl x4), some (.inl x5), some (.inl x6), some (.inl s0), o8, o9] [.inl (i3 >>> (16 &&& 31))] H2 = _
    refine Eq.trans (e1 hG PT_174 k174_670 _ _ _) ?_
    show G 174 671 [some (.inr (.inr x0)), some (.inl x1), some (.inl x2), some (.inl x3), some (.inl x4), some (.inl x5), some (.inl x6), some (.inl s0), o8, o9] [.inl 1, .inl (i3 >>> (16 &&& 31))] H2 = _
    refine Eq.trans (e1 hG PT_174 k174_671 _ _ _) ?_
    show G 174 672 [some (.inr (.inr x0)), some (.inl x1), some (.inl x2), some (.inl x3), some (.inl x4), some (.inl x5), some (.inl x6), some (.inl s0), o8, o9] [.inl ((i3 >>> (16 &&& 31)) &&& 1)] H2 = _
    refine Eq.trans (e1 hG PT_174 k174_672 _ _ _) ?_
    show G 174 673 [some (.inr (.inr x0)), some (.inl x1), some (.inl x2), some (.inl x3), some (.inl x4), some (.inl x5), some (.inl x6), some (.inl s0), o8, o9] [.inl 1, .inl ((i3 >>> (16 &&& 31)) &&& 1)] H2 = _
    refine Eq.trans (e1 hG PT_174 k174_673 _ _ _) ?_
    refine bfc ?_ ?_
    · show G 174 680 [some (.inr (.inr x0)), some (.inl x1), some (.inl x2), some (.inl x3), some (.inl x4), some (.inl x5), some (.inl x6), some (.inl s0), o8, o9] [] H2 = _
      refine Eq.trans (e1 hG PT_174 k174_680 _ _ _) ?_
      rfl
    · show G 174 676 [some (.inr (.inr x0)), some (.inl x1), some (.inl x2), some (.inl x3), some (.inl x4), some (.inl x5), some (.inl x6), some (.inl s0), o8, o9] [] H2 = _
      refine Eq.trans (e1 hG PT_174 k174_676 _ _ _) ?_
      show G 174 677 [some (.inr (.inr x0)), some (.inl x1), some (.inl x2), some (.inl x3), some (.inl x4), some (.inl x5), some (.inl x6), some (.inl s0), o8, o9] [.inl 1] H2 = _
      refine Eq.trans (e1 hG PT_174 k174_677 _ _ _) ?_
      rfl
set_option maxRecDepth 100000 in
theorem b174_681 {G : AG} (hG : FIX G) (x0 : Nat) (x1 : Int32) (x2 : Int32) (x3 : Int32) (x4 : Int32) (x5 : Int32) (x6 : Int32) (x7 : Int32) (o8 : Option AV) (o9 : Option AV) (s0 : Int32) (H : Hp) : G 174 681 [some (.inr (.inr x0)), some (.inl x1), some (.inl x2), some (.inl x3), some (.inl x4), some (.inl x5), some (.inl x6), some (.inl x7), o8, o9] [.inl s0] H = (G 174 683 [some (.inr (.inr x0)), some (.inl x1), some (.inl x2), some (.inl x3), some (.inl x4), some (.inl x5), some (.inl x6), some (.inl s0), o8, o9] [] H) := by
  refine Eq.trans (e1 hG PT_174 k174_681 _ _ _) ?_
  rfl
set_option maxRecDepth 100000 in
theorem b174_683 {G : AG} (hG : FIX G) (x0 : Nat) (x1 : Int32) (x2 : Int32) (x3 : Int32) (x4 : Int32) (x5 : Int32) (x6 : Int32) (x7 : Int32) (o8 : Option AV) (o9 : Option AV) (H : Hp) : G 174 683 [some (.inr (.inr x0)), some (.inl x1), some (.inl x2), some (.inl x3), some (.inl x4), some (.inl x5), some (.inl x6), some (.inl x7), o8, o9] [] H = (bif decide ((x7 : Int32) = 0) then G 174 706 [some (.inr (.inr x0)), some (.inl x1), some (.inl x2), some (.inl x3), some (.inl x4), some (.inl x5), some (.inl x6), some (.inl x7), o8, o9] [.inl (x6 + 1), .inr (.inr x0)] H else bif Nat.beq (H.1 x0).1 12 then (G 176 0 [some (.inr (.inr x0)), some (.inl x6), some (.inl 7), none, none] [] H).bind fun u1 => (asI u1.1).bind fun i2 => G 174 706 [some (.inr (.inr x0)), some (.inl x1), some (.inl x2), some (.inl x3), some (.inl x4), some (.inl x5), some (.inl x6), some (.inl x7), o8, o9] [.inl (i2 + 1), .inr (.inr x0)] u1.2 else none) := by
  refine Eq.trans (e1 hG PT_174 k174_683 _ _ _) ?_
  show G 174 684 [some (.inr (.inr x0)), some (.inl x1), some (.inl x2), some (.inl x3), some (.inl x4), some (.inl x5), some (.inl x6), some (.inl x7), o8, o9] [.inr (.inr x0)] H = _
  refine Eq.trans (e1 hG PT_174 k174_684 _ _ _) ?_
  show G 174 686 [some (.inr (.inr x0)), some (.inl x1), some (.inl x2), some (.inl x3), some (.inl x4), some (.inl x5), some (.inl x6), some (.inl x7), o8, o9] [.inl x7, .inr (.inr x0)] H = _
  refine Eq.trans (e1 hG PT_174 k174_686 _ _ _) ?_
  refine bfc ?_ ?_
  · show G 174 702 [some (.inr (.inr x0)), some (.inl x1), some (.inl x2), some (.inl x3), some (.inl x4), some (.inl x5), some (.inl x6), some (.inl x7), o8, o9] [.inr (.inr x0)] H = _
    refine Eq.trans (e1 hG PT_174 k174_702 _ _ _) ?_
    show G 174 704 [some (.inr (.inr x0)), some (.inl x1), some (.inl x2), some (.inl x3), some (.inl x4), some (.inl x5), some (.inl x6), some (.inl x7), o8, o9] [.inl x6, .inr (.inr x0)] H = _
    refine Eq.trans (e1 hG PT_174 k174_704 _ _ _) ?_
    show G 174 705 [some (.inr (.inr x0)), some (.inl x1), some (.inl x2), some (.inl x3), some (.inl x4), some (.inl x5), some (.inl x6), some (.inl x7), o8, o9] [.inl 1, .inl x6, .inr (.inr x0)] H = _
    refine Eq.trans (e1 hG PT_174 k174_705 _ _ _) ?_
    rfl
  · show G 174 689 [some (.inr (.inr x0)), some (.inl x1), some (.inl x2), some (.inl x3), some (.inl x4), some (.inl x5), some (.inl x6), some (.inl x7), o8, o9] [.inr (.inr x0)] H = _
    refine Eq.trans (e1 hG PT_174 k174_689 _ _ _) ?_
    show G 174 690 [some (.inr (.inr x0)), some (.inl x1), some (.inl x2), some (.inl x3), some (.inl x4), some (.inl x5), some (.inl x6), some (.inl x7), o8, o9] [.inr (.inr x0), .inr (.inr x0)] H = _
    refine Eq.trans (e1 hG PT_174 k174_690 _ _ _) ?_
    show G 174 692 [some (.inr (.inr x0)), some (.inl x1), some (.inl x2), some (.inl x3), some (.inl x4), some (.inl x5), some (.inl x6), some (.inl x7), o8, o9] [.inl x6, .inr (.inr x0), .inr (.inr x0)] H = _
    refine Eq.trans (e1 hG PT_174 k174_692 _ _ _) ?_
    show G 174 694 [some (.inr (.inr x0)), some (.inl x1), some (.inl x2), some (.inl x3), some (.inl x4), some (.inl x5), some (.inl x6), some (.inl x7), o8, o9] [.inl 7, .inl x6, .inr (.inr x0), .inr (.inr x0)] H = _
    refine Eq.trans (e1 hG PT_174 k174_694 _ _ _) ?_
    refine bfc ?_ ?_
    · refine bdc fun u1 => ?_
      refine bdc fun i2 => ?_
      show G 174 697 [some (.inr (.inr x0)), some (.inl x1), some (.inl x2), some (.inl x3), some (.inl x4), some (.inl x5), some (.inl x6), some (.inl x7), o8, o9] [.inl i2, .inr (.inr x0)] u1.2 = _
      refine Eq.trans (e1 hG PT_174 k174_697 _ _ _) ?_
      show G 174 698 [some (.inr (.inr x0)), some (.inl x1), some (.inl x2), some (.inl x3), some (.inl x4), some (.inl x5), some (.inl x6), some (.inl x7), o8, o9] [.inl 1, .inl i2, .inr (.inr x0)] u1.2 = _
      refine Eq.trans (e1 hG PT_174 k174_698 _ _ _) ?_
      show G 174 699 [some (.inr (.inr x0)), some (.inl x1), some (.inl x2), some (.inl x3), some (.inl x4), some (.inl x5), some (.inl x6), some (.inl x7), o8, o9] [.inl (i2 + 1), .inr (.inr x0)] u1.2 = _
      refine Eq.trans (e1 hG PT_174 k174_699 _ _ _) ?_
      rfl
    · rfl
set_option maxRecDepth 100000 in
theorem b174_706 {G : AG} (hG : FIX G) (x0 : Nat) (x1 : Int32) (x2 : Int32) (x3 : Int32) (x4 : Int32) (x5 : Int32) (x6 : Int32) (x7 : Int32) (o8 : Option AV) (o9 : Option AV) (s0 : Int32) (s1 : Nat) (H : Hp) : G 174 706 [some (.inr (.inr x0)), some (.inl x1), some (.inl x2), some (.inl x3), some (.inl x4), some (.inl x5), some (.inl x6), some (.inl x7), o8, o9] [.inl s0, .inr (.inr s1)] H = ((hpI H s1 78 s0).bind fun H1 => G 174 1056 [some (.inr (.inr x0)), some (.inl x1), some (.inl x2), some (.inl x3), some (.inl x4), some (.inl x5), some (.inl x6), some (.inl x7), o8, o9] [] H1) := by
  refine Eq.trans (e1 hG PT_174 k174_706 _ _ _) ?_
  refine bdc fun H1 => ?_
  show G 174 709 [some (.inr (.inr x0)), some (.inl x1), some (.inl x2), some (.inl x3), some (.inl x4), some (.inl x5), some (.inl x6), some (.inl x7), o8, o9] [] H1 = _
  refine Eq.trans (e1 hG PT_174 k174_709 _ _ _) ?_
  rfl
set_option maxRecDepth 100000 in
theorem b174_842 {G : AG} (hG : FIX G) (x0 : Nat) (x1 : Int32) (x2 : Int32) (x3 : Int32) (x4 : Int32) (x5 : Int32) (x6 : Int32) (x7 : Int64) (o9 : Option AV) (s0 : Nat) (H : Hp) : G 174 842 [some (.inr (.inr x0)), some (.inl x1), some (.inl x2), some (.inl x3), some (.inl x4), some (.inl x5), some (.inl x6), some (.inr (.inl x7)), none, o9] [.inr (.inr s0)] H = (G 174 851 [some (.inr (.inr x0)), some (.inl x1), some (.inl x2), some (.inl x3), some (.inl x4), some (.inl x5), some (.inl x6), some (.inr (.inl x7)), none, o9] [.inr (.inl x7), .inr (.inr s0)] H) := by
  refine Eq.trans (e1 hG PT_174 k174_842 _ _ _) ?_
  show G 174 844 [some (.inr (.inr x0)), some (.inl x1), some (.inl x2), some (.inl x3), some (.inl x4), some (.inl x5), some (.inl x6), some (.inr (.inl x7)), none, o9] [.inr (.inl x7), .inr (.inr s0)] H = _
  refine Eq.trans (e1 hG PT_174 k174_844 _ _ _) ?_
  rfl
set_option maxRecDepth 100000 in
theorem b174_847 {G : AG} (hG : FIX G) (x0 : Nat) (x1 : Int32) (x2 : Int32) (x3 : Int32) (x4 : Int32) (x5 : Int32) (x6 : Int32) (x7 : Int64) (o9 : Option AV) (s0 : Nat) (H : Hp) : G 174 847 [some (.inr (.inr x0)), some (.inl x1), some (.inl x2), some (.inl x3), some (.inl x4), some (.inl x5), some (.inl x6), some (.inr (.inl x7)), none, o9] [.inr (.inr s0)] H = ((hgJ H x0 77).bind fun j1 => G 174 851 [some (.inr (.inr x0)), some (.inl x1), some (.inl x2), some (.inl x3), some (.inl x4), some (.inl x5), some (.inl x6), some (.inr (.inl x7)), none, o9] [.inr (.inl j1), .inr (.inr s0)] H) := by
  refine Eq.trans (e1 hG PT_174 k174_847 _ _ _) ?_
  show G 174 848 [some (.inr (.inr x0)), some (.inl x1), some (.inl x2), some (.inl x3), some (.inl x4), some (.inl x5), some (.inl x6), some (.inr (.inl x7)), none, o9] [.inr (.inr x0), .inr (.inr s0)] H = _
  refine Eq.trans (e1 hG PT_174 k174_848 _ _ _) ?_
  refine bdc fun j1 => ?_
  rfl
set_option maxRecDepth 100000 in
theorem b174_851 {G : AG} (hG : FIX G) (x0 : Nat) (x1 : Int32) (x2 : Int32) (x3 : Int32) (x4 : Int32) (x5 : Int32) (x6 : Int32) (x7 : Int64) (o9 : Option AV) (s0 : Int64) (s1 : Nat) (H : Hp) : G 174 851 [some (.inr (.inr x0)), some (.inl x1), some (.inl x2), some (.inl x3), some (.inl x4), some (.inl x5), some (.inl x6), some (.inr (.inl x7)), none, o9] [.inr (.inl s0), .inr (.inr s1)] H = ((hpJ H s1 77 s0).bind fun H1 => G 174 854 [some (.inr (.inr x0)), some (.inl x1), some (.inl x2), some (.inl x3), some (.inl x4), some (.inl x5), some (.inl x6), some (.inr (.inl x7)), none, o9] [] H1) := by
  refine Eq.trans (e1 hG PT_174 k174_851 _ _ _) ?_
  refine bdc fun H1 => ?_
  rfl
set_option maxRecDepth 100000 in
theorem b174_854 {G : AG} (hG : FIX G) (x0 : Nat) (x1 : Int32) (x2 : Int32) (x3 : Int32) (x4 : Int32) (x5 : Int32) (x6 : Int32) (o7 : Option AV) (o8 : Option AV) (o9 : Option AV) (H : Hp) : G 174 854 [some (.inr (.inr x0)), some (.inl x1), some (.inl x2), some (.inl x3), some (.inl x4), some (.inl x5), some (.inl x6), o7, o8, o9] [] H = ((hgI H x0 78).bind fun i1 => (hpI H x0 78 ((i1 + 1))).bind fun H2 => G 174 1056 [some (.inr (.inr x0)), some (.inl x1), some (.inl x2), some (.inl x3), some (.inl x4), some (.inl x5), some (.inl x6), o7, o8, o9] [] H2) := by
  refine Eq.trans (e1 hG PT_174 k174_854 _ _ _) ?_
  show G 174 855 [some (.inr (.inr x0)), some (.inl x1), some (.inl x2), some (.inl x3), some (.inl x4), some (.inl x5), some (.inl x6), o7, o8, o9] [.inr (.inr x0)] H = _
  refine Eq.trans (e1 hG PT_174 k174_855 _ _ _) ?_
  show G 174 856 [some (.inr (.inr x0)), some (.inl x1), some (.inl x2), some (.inl x3), some (.inl x4), some (.inl x5), some (.inl x6), o7, o8, o9] [.inr (.inr x0), .inr (.inr x0)] H = _
  refine Eq.trans (e1 hG PT_174 k174_856 _ _ _) ?_
  refine bdc fun i1 => ?_
  show G 174 859 [some (.inr (.inr x0)), some (.inl x1), some (.inl x2), some (.inl x3), some (.inl x4), some (.inl x5), some (.inl x6), o7, o8, o9] [.inl i1, .inr (.inr x0)] H = _
  refine Eq.trans (e1 hG PT_174 k174_859 _ _ _) ?_
  show G 174 860 [some (.inr (.inr x0)), some (.inl x1), some (.inl x2), some (.inl x3), some (.inl x4), some (.inl x5), some (.inl x6), o7, o8, o9] [.inl 1, .inl i1, .inr (.inr x0)] H = _
  refine Eq.trans (e1 hG PT_174 k174_860 _ _ _) ?_
  show G 174 861 [some (.inr (.inr x0)), some (.inl x1), some (.inl x2), some (.inl x3), some (.inl x4), some (.inl x5), some (.inl x6), o7, o8, o9] [.inl (i1 + 1), .inr (.inr x0)] H = _
  refine Eq.trans (e1 hG PT_174 k174_861 _ _ _) ?_
  refine bdc fun H2 => ?_
  show G 174 864 [some (.inr (.inr x0)), some (.inl x1), some (.inl x2), some (.inl x3), some (.inl x4), some (.inl x5), some (.inl x6), o7, o8, o9] [] H2 = _
  refine Eq.trans (e1 hG PT_174 k174_864 _ _ _) ?_
  rfl
set_option maxRecDepth 100000 in
theorem b174_867 {G : AG} (hG : FIX G) (x0 : Nat) (x1 : Int32) (x2 : Int32) (x3 : Int32) (x4 : Int32) (x5 : Int32) (x6 : Int32) (o7 : Option AV) (o8 : Option AV) (o9 : Option AV) (H : Hp) : G 174 867 [some (.inr (.inr x0)), some (.inl x1), some (.inl x2), some (.inl x3), some (.inl x4), some (.inl x5), some (.inl x6), o7, o8, o9] [] H = (bif Nat.beq (H.1 x0).1 12 then (G 177 0 [some (.inr (.inr x0))] [] H).bind fun u1 => (asI u1.1).bind fun i2 => bif decide ((i2 : Int32) ≠ 0) then (hgJ u1.2 x0 77).bind fun j3 => (hpJ u1.2 x0 77 ((j3 + 1))).bind fun H4 => bif Nat.beq (H4.1 x0).1 12 then (G 175 0 [some (.inr (.inr x0)), some (.inl x6), some (.inl 0), none, none] [] H4).bind fun u5 => (asI u5.1).bind fun i6 => bif Nat.beq (u5.2.1 x0).1 12 then (G 175 0 [some (.inr (.inr x0)), some (.inl x6), some (.inl 1), none, none] [] u5.2).bind fun u7 => (asI u7.1).bind fun i8 => (hgR u7.2 x0 84).bind fun r9 => (hgI u7.2 x0 83).bind fun i10 => (hSI u7.2 r9 i10 x6).bind fun H11 => (hgR H11 x0 89).bind fun r12 => (hgI H11 x0 83).bind fun i13 => (hgI H11 x0 79).bind fun i14 => (hSI H11 r12 ((7 * i13)) i14).bind fun H15 => (hgR H15 x0 89).bind fun r16 => (hgI H15 x0 83).bind fun i17 => (hgI H15 x0 80).bind fun i18 => (hSI H15 r16 (((7 * i17) + 1)) i18).bind fun H19 => (hgR H19 x0 89).bind fun r20 => (hgI H19 x0 83).bind fun i21 => (hgI H19 x0 81).bind fun i22 => (hSI H19 r20 (((7 * i21) + 2)) i22).bind fun H23 => G 174 972 [some (.inr (.inr x0)), some (.inl x1), some (.inl x2), some (.inl x3), some (.inl x4), some (.inl x5), some (.inl x6), some (.inl i6), some (.inl i8), some (.inl 0)] [] H23 else none else none else some (some (.inl ((-1000004))), u1.2) else none) := by
  refine Eq.trans (e1 hG PT_174 k174_867 _ _ _) ?_
  show G 174 868 [some (.inr (.inr x0)), some (.inl x1), some (.inl x2), some (.inl x3), some (.inl x4), some (.inl x5), some (.inl x6), o7, o8, o9] [.inr (.inr x0)] H = _
  refine Eq.trans (e1 hG PT_174 k174_868 _ _ _) ?_
  refine bfc ?_ ?_
  · refine bdc fun u1 => ?_
    refine bdc fun i2 => ?_
    show G 174 871 [some (.inr (.inr x0)), some (.inl x1), some (.inl x2), some (.inl x3), some (.inl x4), some (.inl x5), some (.inl x6), o7, o8, o9] [.inl i2] u1.2 = _
    refine Eq.trans (e1 hG PT_174 k174_871 _ _ _) ?_
    refine bfc ?_ ?_
    · show G 174 878 [some (.inr (.inr x0)), some (.inl x1), some (.inl x2), some (.inl x3), some (.inl x4), some (.inl x5), some (.inl x6), o7, o8, o9] [] u1.2 = _
      refine Eq.trans (e1 hG PT_174 k174_878 _ _ _) ?_
      show G 174 879 [some (.inr (.inr x0)), some (.inl x1), some (.inl x2), some (.inl x3), some (.inl x4), some (.inl x5), some (.inl x6), o7, o8, o9] [.inr (.inr x0)] u1.2 = _
      refine Eq.trans (e1 hG PT_174 k174_879 _ _ _) ?_
      show G 174 880 [some (.inr (.inr x0)), some (.inl x1), some (.inl x2), some (.inl x3), some (.inl x4), some (.inl x5), some (.inl x6), o7, o8, o9] [.inr (.inr x0), .inr (.inr x0)] u1.2 = _
      refine Eq.trans (e1 hG PT_174 k174_880 _ _ _) ?_
      refine bdc fun j3 => ?_
      show G 174 883 [some (.inr (.inr x0)), some (.inl x1), some (.inl x2), some (.inl x3), some (.inl x4), some (.inl x5), some (.inl x6), o7, o8, o9] [.inr (.inl j3), .inr (.inr x0)] u1.2 = _
      refine Eq.trans (e1 hG PT_174 k174_883 _ _ _) ?_
      show G 174 884 [some (.inr (.inr x0)), some (.inl x1), some (.inl x2), some (.inl x3), some (.inl x4), some (.inl x5), some (.inl x6), o7, o8, o9] [.inr (.inl 1), .inr (.inl j3), .inr (.inr x0)] u1.2 = _
      refine Eq.trans (e1 hG PT_174 k174_884 _ _ _) ?_
      show G 174 885 [some (.inr (.inr x0)), some (.inl x1), some (.inl x2), some (.inl x3), some (.inl x4), some (.inl x5), some (.inl x6), o7, o8, o9] [.inr (.inl (j3 + 1)), .inr (.inr x0)] u1.2 = _
      refine Eq.trans (e1 hG PT_174 k174_885 _ _ _) ?_
      refine bdc fun H4 => ?_
      show G 174 888 [some (.inr (.inr x0)), some (.inl x1), some (.inl x2), some (.inl x3), some (.inl x4), some (.inl x5), some (.inl x6), o7, o8, o9] [] H4 = _
      refine Eq.trans (e1 hG PT_174 k174_888 _ _ _) ?_
      show G 174 889 [some (.inr (.inr x0)), some (.inl x1), some (.inl x2), some (.inl x3), some (.inl x4), some (.inl x5), some (.inl x6), o7, o8, o9] [.inr (.inr x0)] H4 = _
      refine Eq.trans (e1 hG PT_174 k174_889 _ _ _) ?_
      show G 174 891 [some (.inr (.inr x0)), some (.inl x1), some (.inl x2), some (.inl x3), some (.inl x4), some (.inl x5), some (.inl x6), o7, o8, o9] [.inl x6, .inr (.inr x0)] H4 = _
      refine Eq.trans (e1 hG PT_174 k174_891 _ _ _) ?_
      show G 174 892 [some (.inr (.inr x0)), some (.inl x1), some (.inl x2), some (.inl x3), some (.inl x4), some (.inl x5), some (.inl x6), o7, o8, o9] [.inl 0, .inl x6, .inr (.inr x0)] H4 = _
      refine Eq.trans (e1 hG PT_174 k174_892 _ _ _) ?_
      refine bfc ?_ ?_
      · refine bdc fun u5 => ?_
        refine bdc fun i6 => ?_
        show G 174 895 [some (.inr (.inr x0)), some (.inl x1), some (.inl x2), some (.inl x3), some (.inl x4), some (.inl x5), some (.inl x6), o7, o8, o9] [.inl i6] u5.2 = _
        refine Eq.trans (e1 hG PT_174 k174_895 _ _ _) ?_
        show G 174 897 [some (.inr (.inr x0)), some (.inl x1), some (.inl x2), some (.inl x3), some (.inl x4), some (.inl x5), some (.inl x6), some (.inl i6), o8, o9] [] u5.2 = _
        refine Eq.trans (e1 hG PT_174 k174_897 _ _ _) ?_
        show G 174 898 [some (.inr (.inr x0)), some (.inl x1), some (.inl x2), some (.inl x3), some (.inl x4), some (.inl x5), some (.inl x6), some (.inl i6), o8, o9] [.inr (.inr x0)] u5.2 = _
        refine Eq.trans (e1 hG PT_174 k174_898 _ _ _) ?_
        show G 174 900 [some (.inr (.inr x0)), some (.inl x1), some (.inl x2), some (.inl x3), some (.inl x4), some (.inl x5), some (.inl x6), some (.inl i6), o8, o9] [.inl x6, .inr (.inr x0)] u5.2 = _
        refine Eq.trans (e1 hG PT_174 k174_900 _ _ _) ?_
        show G 174 901 [some (.inr (.inr x0)), some (.inl x1), some (.inl x2), some (.inl x3), some (.inl x4), some (.inl x5), some (.inl x6), some (.inl i6), o8, o9] [.inl 1, .inl x6, .inr (.inr x0)] u5.2 = _
        refine Eq.trans (e1 hG PT_174 k174_901 _ _ _) ?_
        refine bfc ?_ ?_
        · refine bdc fun u7 => ?_
          refine bdc fun i8 => ?_
          show G 174 904 [some (.inr (.inr x0)), some (.inl x1), some (.inl x2), some (.inl x3), some (.inl x4), some (.inl x5), some (.inl x6), some (.inl i6), o8, o9] [.inl i8] u7.2 = _
          refine Eq.trans (e1 hG PT_174 k174_904 _ _ _) ?_
          show G 174 906 [some (.inr (.inr x0)), some (.inl x1), some (.inl x2), some (.inl x3), some (.inl x4), some (.inl x5), some (.inl x6), some (.inl i6), some (.inl i8), o9] [] u7.2 = _
          refine Eq.trans (e1 hG PT_174 k174_906 _ _ _) ?_
          show G 174 907 [some (.inr (.inr x0)), some (.inl x1), some (.inl x2), some (.inl x3), some (.inl x4), some (.inl x5), some (.inl x6), some (.inl i6), some (.inl i8), o9] [.inr (.inr x0)] u7.2 = _
          refine Eq.trans (e1 hG PT_174 k174_907 _ _ _) ?_
          refine bdc fun r9 => ?_
          show G 174 910 [some (.inr (.inr x0)), some (.inl x1), some (.inl x2), some (.inl x3), some (.inl x4), some (.inl x5), some (.inl x6), some (.inl i6), some (.inl i8), o9] [.inr (.inr r9)] u7.2 = _
          refine Eq.trans (e1 hG PT_174 k174_910 _ _ _) ?_
          show G 174 911 [some (.inr (.inr x0)), some (.inl x1), some (.inl x2), some (.inl x3), some (.inl x4), some (.inl x5), some (.inl x6), some (.inl i6), some (.inl i8), o9] [.inr (.inr x0), .inr (.inr r9)] u7.2 = _
          refine Eq.trans (e1 hG PT_174 k174_911 _ _ _) ?_
          refine bdc fun i10 => ?_
          show G 174 914 [some (.inr (.inr x0)), some (.inl x1), some (.inl x2), some (.inl x3), some (.inl x4), some (.inl x5), some (.inl x6), some (.inl i6), some (.inl i8), o9] [.inl i10, .inr (.inr r9)] u7.2 = _
          refine Eq.trans (e1 hG PT_174 k174_914 _ _ _) ?_
          show G 174 916 [some (.inr (.inr x0)), some (.inl x1), some (.inl x2), some (.inl x3), some (.inl x4), some (.inl x5), some (.inl x6), some (.inl i6), some (.inl i8), o9] [.inl x6, .inl i10, .inr (.inr r9)] u7.2 = _
          refine Eq.trans (e1 hG PT_174 k174_916 _ _ _) ?_
          refine bdc fun H11 => ?_
          show G 174 917 [some (.inr (.inr x0)), some (.inl x1), some (.inl x2), some (.inl x3), some (.inl x4), some (.inl x5), some (.inl x6), some (.inl i6), some (.inl i8), o9] [] H11 = _
          refine Eq.trans (e1 hG PT_174 k174_917 _ _ _) ?_
          show G 174 918 [some (.inr (.inr x0)), some (.inl x1), some (.inl x2), some (.inl x3), some (.inl x4), some (.inl x5), some (.inl x6), some (.inl i6), some (.inl i8), o9] [.inr (.inr x0)] H11 = _
          refine Eq.trans (e1 hG PT_174 k174_918 _ _ _) ?_
          refine bdc fun r12 => ?_
          show G 174 921 [some (.inr (.inr x0)), some (.inl x1), some (.inl x2), some (.inl x3), some (.inl x4), some (.inl x5), some (.inl x6), some (.inl i6), some (.inl i8), o9] [.inr (.inr r12)] H11 = _
          refine Eq.trans (e1 hG PT_174 k174_921 _ _ _) ?_
          show G 174 923 [some (.inr (.inr x0)), some (.inl x1), some (.inl x2), some (.inl x3), some (.inl x4), some (.inl x5), some (.inl x6), some (.inl i6), some (.inl i8), o9] [.inl 7, .inr (.inr r12)] H11 = _
          refine Eq.trans (e1 hG PT_174 k174_923 _ _ _) ?_
          show G 174 924 [some (.inr (.inr x0)), some (.inl x1), some (.inl x2), some (.inl x3), some (.inl x4), some (.inl x5), some (.inl x6), some (.inl i6), some (.inl i8), o9] [.inr (.inr x0), .inl 7, .inr (.inr r12)] H11 = _
          refine Eq.trans (e1 hG PT_174 k174_924 _ _ _) ?_
          refine bdc fun i13 => ?_
          show G 174 927 [some (.inr (.inr x0)), some (.inl x1), some (.inl x2), some (.inl x3), some (.inl x4), some (.inl x5), some (.inl x6), some (.inl i6), some (.inl i8), o9] [.inl i13, .inl 7, .inr (.inr r12)] H11 = _
          refine Eq.trans (e1 hG PT_174 k174_927 _ _ _) ?_
          show G 174 928 [some (.inr (.inr x0)), some (.inl x1), some (.inl x2), some (.inl x3), some (.inl x4), some (.inl x5), some (.inl x6), some (.inl i6), some (.inl i8), o9] [.inl (7 * i13), .inr (.inr r12)] H11 = _
          refine Eq.trans (e1 hG PT_174 k174_928 _ _ _) ?_
          show G 174 929 [some (.inr (.inr x0)), some (.inl x1), some (.inl x2), some (.inl x3), some (.inl x4), some (.inl x5), some (.inl x6), some (.inl i6), some (.inl i8), o9] [.inr (.inr x0), .inl (7 * i13), .inr (.inr r12)] H11 = _
          refine Eq.trans (e1 hG PT_174 k174_929 _ _ _) ?_
          refine bdc fun i14 => ?_
          show G 174 932 [some (.inr (.inr x0)), some (.inl x1), some (.inl x2), some (.inl x3), some (.inl x4), some (.inl x5), some (.inl x6), some (.inl i6), some (.inl i8), o9] [.inl i14, .inl (7 * i13), .inr (.inr r12)] H11 = _
          refine Eq.trans (e1 hG PT_174 k174_932 _ _ _) ?_
          refine bdc fun H15 => ?_
          show G 174 933 [some (.inr (.inr x0)), some (.inl x1), some (.inl x2), some (.inl x3), some (.inl x4), some (.inl x5), some (.inl x6), some (.inl i6), some (.inl i8), o9] [] H15 = _
          refine Eq.trans (e1 hG PT_174 k174_933 _ _ _) ?_
          show G 174 934 [some (.inr (.inr x0)), some (.inl x1), some (.inl x2), some (.inl x3), some (.inl x4), some (.inl x5), some (.inl x6), some (.inl i6), some (.inl i8), o9] [.inr (.inr x0)] H15 = _
          refine Eq.trans (e1 hG PT_174 k174_934 _ _ _) ?_
          refine bdc fun r16 => ?_
          show G 174 937 [some (.inr (.inr x0)), some (.inl x1), some (.inl x2), some (.inl x3), some (.inl x4), some (.inl x5), some (.inl x6), some (.inl i6), some (.inl i8), o9] [.inr (.inr r16)] H15 = _
          refine Eq.trans (e1 hG PT_174 k174_937 _ _ _) ?_
          show G 174 939 [some (.inr (.inr x0)), some (.inl x1), some (.inl x2), some (.inl x3), some (.inl x4), some (.inl x5), some (.inl x6), some (.inl i6), some (.inl i8), o9] [.inl 7, .inr (.inr r16)] H15 = _
          refine Eq.trans (e1 hG PT_174 k174_939 _ _ _) ?_
          show G 174 940 [some (.inr (.inr x0)), some (.inl x1), some (.inl x2), some (.inl x3), some (.inl x4), some (.inl x5), some (.inl x6), some (.inl i6), some (.inl i8), o9] [.inr (.inr x0), .inl 7, .inr (.inr r16)] H15 = _
          refine Eq.trans (e1 hG PT_174 k174_940 _ _ _) ?_
          refine bdc fun i17 => ?_
          show G 174 943 [some (.inr (.inr x0)), some (.inl x1), some (.inl x2), some (.inl x3), some (.inl x4), some (.inl x5), some (.inl x6), some (.inl i6), some (.inl i8), o9] [.inl i17, .inl 7, .inr (.inr r16)] H15 = _
          refine Eq.trans (e1 hG PT_174 k174_943 _ _ _) ?_
          show G 174 944 [some (.inr (.inr x0)), some (.inl x1), some (.inl x2), some (.inl x3), some (.inl x4), some (.inl x5), some (.inl x6), some (.inl i6), some (.inl i8), o9] [.inl (7 * i17), .inr (.inr r16)] H15 = _
          refine Eq.trans (e1 hG PT_174 k174_944 _ _ _) ?_
          show G 174 945 [some (.inr (.inr x0)), some (.inl x1), some (.inl x2), some (.inl x3), some (.inl x4), some (.inl x5), some (.inl x6), some (.inl i6), some (.inl i8), o9] [.inl 1, .inl (7 * i17), .inr (.inr r16)] H15 = _
          refine Eq.trans (e1 hG PT_174 k174_945 _ _ _) ?_
          show G 174 946 [some (.inr (.inr x0)), some (.inl x1), some (.inl x2), some (.inl x3), some (.inl x4), some (.inl x5), some (.inl x6), some (.inl i6), some (.inl i8), o9] [.inl ((7 * i17) + 1), .inr (.inr r16)] H15 = _
          refine Eq.trans (e1 hG PT_174 k174_946 _ _ _) ?_
          show G 174 947 [some (.inr (.inr x0)), some (.inl x1), some (.inl x2), some (.inl x3), some (.inl x4), some (.inl x5), some (.inl x6), some (.inl i6), some (.inl i8), o9] [.inr (.inr x0), .inl ((7 * i17) + 1), .inr (.inr r16)] H15 = _
          refine Eq.trans (e1 hG PT_174 k174_947 _ _ _) ?_
          refine bdc fun i18 => ?_
          show G 174 950 [some (.inr (.inr x0)), some (.inl x1), some (.inl x2), some (.inl x3), some (.inl x4), some (.inl x5), some (.inl x6), some (.inl i6), some (.inl i8), o9] [.inl i18, .inl ((7 * i17) + 1), .inr (.inr r16)] H15 = _
          refine Eq.trans (e1 hG PT_174 k174_950 _ _ _) ?_
          refine bdc fun H19 => ?_
          show G 174 951 [some (.inr (.inr x0)), some (.inl x1), some (.inl x2), some (.inl x3), some (.inl x4), some (.inl x5), some (.inl x6), some (.inl i6), some (.inl i8), o9] [] H19 = _
          refine Eq.trans (e1 hG PT_174 k174_951 _ _ _) ?_
          show G 174 952 [some (.inr (.inr x0)), some (.inl x1), some (.inl x2), some (.inl x3), some (.inl x4), some (.inl x5), some (.inl x6), some (.inl i6), some (.inl i8), o9] [.inr (.inr x0)] H19 = _
          refine Eq.trans (e1 hG PT_174 k174_952 _ _ _) ?_
          refine bdc fun r20 => ?_
          show G 174 955 [some (.inr (.inr x0)), some (.inl x1), some (.inl x2), some (.inl x3), some (.inl x4), some (.inl x5), some (.inl x6), some (.inl i6), some (.inl i8), o9] [.inr (.inr r20)] H19 = _
          refine Eq.trans (e1 hG PT_174 k174_955 _ _ _) ?_
          show G 174 957 [some (.inr (.inr x0)), some (.inl x1), some (.inl x2), some (.inl x3), some (.inl x4), some (.inl x5), some (.inl x6), some (.inl i6), some (.inl i8), o9] [.inl 7, .inr (.inr r20)] H19 = _
          refine Eq.trans (e1 hG PT_174 k174_957 _ _ _) ?_
          show G 174 958 [some (.inr (.inr x0)), some (.inl x1), some (.inl x2), some (.inl x3), some (.inl x4), some (.inl x5), some (.inl x6), some (.inl i6), some (.inl i8), o9] [.inr (.inr x0), .inl 7, .inr (.inr r20)] H19 = _
          refine Eq.trans (e1 hG PT_174 k174_958 _ _ _) ?_
          refine bdc fun i21 => ?_
          show G 174 961 [some (.inr (.inr x0)), some (.inl x1), some (.inl x2), some (.inl x3), some (.inl x4), some (.inl x5), some (.inl x6), some (.inl i6), some (.inl i8), o9] [.inl i21, .inl 7, .inr (.inr r20)] H19 = _
          refine Eq.trans (e1 hG PT_174 k174_961 _ _ _) ?_
          show G 174 962 [some (.inr (.inr x0)), some (.inl x1), some (.inl x2), some (.inl x3), some (.inl x4), some (.inl x5), some (.inl x6), some (.inl i6), some (.inl i8), o9] [.inl (7 * i21), .inr (.inr r20)] H19 = _
          refine Eq.trans (e1 hG PT_174 k174_962 _ _ _) ?_
          show G 174 963 [some (.inr (.inr x0)), some (.inl x1), some (.inl x2), some (.inl x3), some (.inl x4), some (.inl x5), some (.inl x6), some (.inl i6), some (.inl i8), o9] [.inl 2, .inl (7 * i21), .inr (.inr r20)] H19 = _
          refine Eq.trans (e1 hG PT_174 k174_963 _ _ _) ?_
          show G 174 964 [some (.inr (.inr x0)), some (.inl x1), some (.inl x2), some (.inl x3), some (.inl x4), some (.inl x5), some (.inl x6), some (.inl i6), some (.inl i8), o9] [.inl ((7 * i21) + 2), .inr (.inr r20)] H19 = _
          refine Eq.trans (e1 hG PT_174 k174_964 _ _ _) ?_
          show G 174 965 [some (.inr (.inr x0)), some (.inl x1), some (.inl x2), some (.inl x3), some (.inl x4), some (.inl x5), some (.inl x6), some (.inl i6), some (.inl i8), o9] [.inr (.inr x0), .inl ((7 * i21) + 2), .inr (.inr r20)] H19 = _
          refine Eq.trans (e1 hG PT_174 k174_965 _ _ _) ?_
          refine bdc fun i22 => ?_
          show G 174 968 [some (.inr (.inr x0)), some (.inl x1), some (.inl x2), some (.inl x3), some (.inl x4), some (.inl x5), some (.inl x6), some (.inl i6), some (.inl i8), o9] [.inl i22, .inl ((7 * i21) + 2), .inr (.inr r20)] H19 = _
          refine Eq.trans (e1 hG PT_174 k174_968 _ _ _) ?_
          refine bdc fun H23 => ?_
          show G 174 969 [some (.inr (.inr x0)), some (.inl x1), some (.inl x2), some (.inl x3), some (.inl x4), some (.inl x5), some (.inl x6), some (.inl i6), some (.inl i8), o9] [] H23 = _
          refine Eq.trans (e1 hG PT_174 k174_969 _ _ _) ?_
          show G 174 970 [some (.inr (.inr x0)), some (.inl x1), some (.inl x2), some (.inl x3), some (.inl x4), some (.inl x5), some (.inl x6), some (.inl i6), some (.inl i8), o9] [.inl 0] H23 = _
          refine Eq.trans (e1 hG PT_174 k174_970 _ _ _) ?_
          rfl
        · rfl
      · rfl
    · show G 174 874 [some (.inr (.inr x0)), some (.inl x1), some (.inl x2), some (.inl x3), some (.inl x4), some (.inl x5), some (.inl x6), o7, o8, o9] [] u1.2 = _
      refine Eq.trans (e1 hG PT_174 k174_874 _ _ _) ?_
      show G 174 877 [some (.inr (.inr x0)), some (.inl x1), some (.inl x2), some (.inl x3), some (.inl x4), some (.inl x5), some (.inl x6), o7, o8, o9] [.inl (-1000004)] u1.2 = _
      exact e1 hG PT_174 k174_877 _ _ _
  · rfl
set_option maxRecDepth 100000 in
theorem b174_972 {G : AG} (hG : FIX G) (x0 : Nat) (x1 : Int32) (x2 : Int32) (x3 : Int32) (x4 : Int32) (x5 : Int32) (x6 : Int32) (x7 : Int32) (x8 : Int32) (x9 : Int32) (H : Hp) : G 174 972 [some (.inr (.inr x0)), some (.inl x1), some (.inl x2), some (.inl x3), some (.inl x4), some (.inl x5), some (.inl x6), some (.inl x7), some (.inl x8), some (.inl x9)] [] H = (bif decide ((3 : Int32) ≤ (x9 : Int32)) then (hgI H x0 83).bind fun i1 => (hpI H x0 83 ((i1 + 1))).bind fun H2 => (hgR H2 x0 54).bind fun r3 => (hAI H2 r3 x6).bind fun i4 => (hpI H2 x0 78 ((24 * i4))).bind fun H5 => (hpI H5 x0 79 x7).bind fun H6 => (hpI H6 x0 80 x8).bind fun H7 => (hpI H7 x0 81 0).bind fun H8 => G 174 1056 [some (.inr (.inr x0)), some (.inl x1), some (.inl x2), some (.inl x3), some (.inl x4), some (.inl i4), some (.inl x6), some (.inl x7), some (.inl x8), some (.inl x9)] [] H8 else (hgR H x0 89).bind fun r9 => (hgI H x0 83).bind fun i10 => (hgR H x0 82).bind fun r11 => (hAI H r11 x9).bind fun i12 => (hSI H r9 ((((7 * i10) + 3) + x9)) i12).bind fun H13 => G 174 972 [some (.inr (.inr x0)), some (.inl x1), some (.inl x2), some (.inl x3), some (.inl x4), some (.inl x5), some (.inl x6), some (.inl x7), some (.inl x8), some (.inl (x9 + 1))] [] H13) := by
  refine Eq.trans (e1 hG PT_174 k174_972 _ _ _) ?_
  show G 174 974 [some (.inr (.inr x0)), some (.inl x1), some (.inl x2), some (.inl x3), some (.inl x4), some (.inl x5), some (.inl x6), some (.inl x7), some (.inl x8), some (.inl x9)] [.inl x9] H = _
  refine Eq.trans (e1 hG PT_174 k174_974 _ _ _) ?_
  show G 174 975 [some (.inr (.inr x0)), some (.inl x1), some (.inl x2), some (.inl x3), some (.inl x4), some (.inl x5), some (.inl x6), some (.inl x7), some (.inl x8), some (.inl x9)] [.inl 3, .inl x9] H = _
  refine Eq.trans (e1 hG PT_174 k174_975 _ _ _) ?_
  refine bfc ?_ ?_
  · show G 174 1008 [some (.inr (.inr x0)), some (.inl x1), some (.inl x2), some (.inl x3), some (.inl x4), some (.inl x5), some (.inl x6), some (.inl x7), some (.inl x8), some (.inl x9)] [] H = _
    refine Eq.trans (e1 hG PT_174 k174_1008 _ _ _) ?_
    show G 174 1009 [some (.inr (.inr x0)), some (.inl x1), some (.inl x2), some (.inl x3), some (.inl x4), some (.inl x5), some (.inl x6), some (.inl x7), some (.inl x8), some (.inl x9)] [.inr (.inr x0)] H = _
    refine Eq.trans (e1 hG PT_174 k174_1009 _ _ _) ?_
    show G 174 1010 [some (.inr (.inr x0)), some (.inl x1), some (.inl x2), some (.inl x3), some (.inl x4), some (.inl x5), some (.inl x6), some (.inl x7), some (.inl x8), some (.inl x9)] [.inr (.inr x0), .inr (.inr x0)] H = _
    refine Eq.trans (e1 hG PT_174 k174_1010 _ _ _) ?_
    refine bdc fun i1 => ?_
    show G 174 1013 [some (.inr (.inr x0)), some (.inl x1), some (.inl x2), some (.inl x3), some (.inl x4), some (.inl x5), some (.inl x6), some (.inl x7), some (.inl x8), some (.inl x9)] [.inl i1, .inr (.inr x0)] H = _
    refine Eq.trans (e1 hG PT_174 k174_1013 _ _ _) ?_
    show G 174 1014 [some (.inr (.inr x0)), some (.inl x1), some (.inl x2), some (.inl x3), some (.inl x4), some (.inl x5), some (.inl x6), some (.inl x7), some (.inl x8), some (.inl x9)] [.inl 1, .inl i1, .inr (.inr x0)] H = _
    refine Eq.trans (e1 hG PT_174 k174_1014 _ _ _) ?_
    show G 174 1015 [some (.inr (.inr x0)), some (.inl x1), some (.inl x2), some (.inl x3), some (.inl x4), some (.inl x5), some (.inl x6), some (.inl x7), some (.inl x8), some (.inl x9)] [.inl (i1 + 1), .inr (.inr x0)] H = _
    refine Eq.trans (e1 hG PT_174 k174_1015 _ _ _) ?_
    refine bdc fun H2 => ?_
    show G 174 1018 [some (.inr (.inr x0)), some (.inl x1), some (.inl x2), some (.inl x3), some (.inl x4), some (.inl x5), some (.inl x6), some (.inl x7), some (.inl x8), some (.inl x9)] [] H2 = _
    refine Eq.trans (e1 hG PT_174 k174_1018 _ _ _) ?_
    show G 174 1019 [some (.inr (.inr x0)), some (.inl x1), some (.inl x2), some (.inl x3), some (.inl x4), some (.inl x5), some (.inl x6), some (.inl x7), some (.inl x8), some (.inl x9)] [.inr (.inr x0)] H2 = _
    refine Eq.trans (e1 hG PT_174 k174_1019 _ _ _) ?_
    refine bdc fun r3 => ?_
    show G 174 1022 [some (.inr (.inr x0)), some (.inl x1), some (.inl x2), some (.inl x3), some (.inl x4), some (.inl x5), some (.inl x6), some (.inl x7), some (.inl x8), some (.inl x9)] [.inr (.inr r3)] H2 = _
    refine Eq.trans (e1 hG PT_174 k174_1022 _ _ _) ?_
    show G 174 1024 [some (.inr (.inr x0)), some (.inl x1), some (.inl x2), some (.inl x3), some (.inl x4), some (.inl x5), some (.inl x6), some (.inl x7), some (.inl x8), some (.inl x9)] [.inl x6, .inr (.inr r3)] H2 = _
    refine Eq.trans (e1 hG PT_174 k174_1024 _ _ _) ?_
    refine bdc fun i4 => ?_
    show G 174 1025 [some (.inr (.inr x0)), some (.inl x1), some (.inl x2), some (.inl x3), some (.inl x4), some (.inl x5), some (.inl x6), some (.inl x7), some (.inl x8), some (.inl x9)] [.inl i4] H2 = _
    refine Eq.trans (e1 hG PT_174 k174_1025 _ _ _) ?_
    show G 174 1027 [some (.inr (.inr x0)), some (.inl x1), some (.inl x2), some (.inl x3), some (.inl x4), some (.inl i4), some (.inl x6), some (.inl x7), some (.inl x8), some (.inl x9)] [] H2 = _
    refine Eq.trans (e1 hG PT_174 k174_1027 _ _ _) ?_
    show G 174 1028 [some (.inr (.inr x0)), some (.inl x1), some (.inl x2), some (.inl x3), some (.inl x4), some (.inl i4), some (.inl x6), some (.inl x7), some (.inl x8), some (.inl x9)] [.inr (.inr x0)] H2 = _
    refine Eq.trans (e1 hG PT_174 k174_1028 _ _ _) ?_
    show G 174 1030 [some (.inr (.inr x0)), some (.inl x1), some (.inl x2), some (.inl x3), some (.inl x4), some (.inl i4), some (.inl x6), some (.inl x7), some (.inl x8), some (.inl x9)] [.inl 24, .inr (.inr x0)] H2 = _
    refine Eq.trans (e1 hG PT_174 k174_1030 _ _ _) ?_
    show G 174 1032 [some (.inr (.inr x0)), some (.inl x1), some (.inl x2), some (.inl x3), some (.inl x4), some (.inl i4), some (.inl x6), some (.inl x7), some (.inl x8), some (.inl x9)] [.inl i4, .inl 24, .inr (.inr x0)] H2 = _
    refine Eq.trans (e1 hG PT_174 k174_1032 _ _ _) ?_
    show G 174 1033 [some (.inr (.inr x0)), some (.inl x1), some (.inl x2), some (.inl x3), some (.inl x4), some (.inl i4), some (.inl x6), some (.inl x7), some (.inl x8), some (.inl x9)] [.inl (24 * i4), .inr (.inr x0)] H2 = _
    refine Eq.trans (e1 hG PT_174 k174_1033 _ _ _) ?_
    refine bdc fun H5 => ?_
    show G 174 1036 [some (.inr (.inr x0)), some (.inl x1), some (.inl x2), some (.inl x3), some (.inl x4), some (.inl i4), some (.inl x6), some (.inl x7), some (.inl x8), some (.inl x9)] [] H5 = _
    refine Eq.trans (e1 hG PT_174 k174_1036 _ _ _) ?_
    show G 174 1037 [some (.inr (.inr x0)), some (.inl x1), some (.inl x2), some (.inl x3), some (.inl x4), some (.inl i4), some (.inl x6), some (.inl x7), some (.inl x8), some (.inl x9)] [.inr (.inr x0)] H5 = _
    refine Eq.trans (e1 hG PT_174 k174_1037 _ _ _) ?_
    show G 174 1039 [some (.inr (.inr x0)), some (.inl x1), some (.inl x2), some (.inl x3), some (.inl x4), some (.inl i4), some (.inl x6), some (.inl x7), some (.inl x8), some (.inl x9)] [.inl x7, .inr (.inr x0)] H5 = _
    refine Eq.trans (e1 hG PT_174 k174_1039 _ _ _) ?_
    refine bdc fun H6 => ?_
    show G 174 1042 [some (.inr (.inr x0)), some (.inl x1), some (.inl x2), some (.inl x3), some (.inl x4), some (.inl i4), some (.inl x6), some (.inl x7), some (.inl x8), some (.inl x9)] [] H6 = _
    refine Eq.trans (e1 hG PT_174 k174_1042 _ _ _) ?_
    show G 174 1043 [some (.inr (.inr x0)), some (.inl x1), some (.inl x2), some (.inl x3), some (.inl x4), some (.inl i4), some (.inl x6), some (.inl x7), some (.inl x8), some (.inl x9)] [.inr (.inr x0)] H6 = _
    refine Eq.trans (e1 hG PT_174 k174_1043 _ _ _) ?_
    show G 174 1045 [some (.inr (.inr x0)), some (.inl x1), some (.inl x2), some (.inl x3), some (.inl x4), some (.inl i4), some (.inl x6), some (.inl x7), some (.inl x8), some (.inl x9)] [.inl x8, .inr (.inr x0)] H6 = _
    refine Eq.trans (e1 hG PT_174 k174_1045 _ _ _) ?_
    refine bdc fun H7 => ?_
    show G 174 1048 [some (.inr (.inr x0)), some (.inl x1), some (.inl x2), some (.inl x3), some (.inl x4), some (.inl i4), some (.inl x6), some (.inl x7), some (.inl x8), some (.inl x9)] [] H7 = _
    refine Eq.trans (e1 hG PT_174 k174_1048 _ _ _) ?_
    show G 174 1049 [some (.inr (.inr x0)), some (.inl x1), some (.inl x2), some (.inl x3), some (.inl x4), some (.inl i4), some (.inl x6), some (.inl x7), some (.inl x8), some (.inl x9)] [.inr (.inr x0)] H7 = _
    refine Eq.trans (e1 hG PT_174 k174_1049 _ _ _) ?_
    show G 174 1050 [some (.inr (.inr x0)), some (.inl x1), some (.inl x2), some (.inl x3), some (.inl x4), some (.inl i4), some (.inl x6), some (.inl x7), some (.inl x8), some (.inl x9)] [.inl 0, .inr (.inr x0)] H7 = _
    refine Eq.trans (e1 hG PT_174 k174_1050 _ _ _) ?_
    refine bdc fun H8 => ?_
    show G 174 1053 [some (.inr (.inr x0)), some (.inl x1), some (.inl x2), some (.inl x3), some (.inl x4), some (.inl i4), some (.inl x6), some (.inl x7), some (.inl x8), some (.inl x9)] [] H8 = _
    refine Eq.trans (e1 hG PT_174 k174_1053 _ _ _) ?_
    rfl
  · show G 174 978 [some (.inr (.inr x0)), some (.inl x1), some (.inl x2), some (.inl x3), some (.inl x4), some (.inl x5), some (.inl x6), some (.inl x7), some (.inl x8), some (.inl x9)] [] H = _
    refine Eq.trans (e1 hG PT_174 k174_978 _ _ _) ?_
    show G 174 979 [some (.inr (.inr x0)), some (.inl x1), some (.inl x2), some (.inl x3), some (.inl x4), some (.inl x5), some (.inl x6), some (.inl x7), some (.inl x8), some (.inl x9)] [.inr (.inr x0)] H = _
    refine Eq.trans (e1 hG PT_174 k174_979 _ _ _) ?_
    refine bdc fun r9 => ?_
    show G 174 982 [some (.inr (.inr x0)), some (.inl x1), some (.inl x2), some (.inl x3), some (.inl x4), some (.inl x5), some (.inl x6), some (.inl x7), some (.inl x8), some (.inl x9)] [.inr (.inr r9)] H = _
    refine Eq.trans (e1 hG PT_174 k174_982 _ _ _) ?_
    show G 174 984 [some (.inr (.inr x0)), some (.inl x1), some (.inl x2), some (.inl x3), some (.inl x4), some (.inl x5), some (.inl x6), some (.inl x7), some (.inl x8), some (.inl x9)] [.inl 7, .inr (.inr r9)] H = _
    refine Eq.trans (e1 hG PT_174 k174_984 _ _ _) ?_
    show G 174 985 [some (.inr (.inr x0)), some (.inl x1), some (.inl x2), some (.inl x3), some (.inl x4), some (.inl x5), some (.inl x6), some (.inl x7), some (.inl x8), some (.inl x9)] [.inr (.inr x0), .inl 7, .inr (.inr r9)] H = _
    refine Eq.trans (e1 hG PT_174 k174_985 _ _ _) ?_
    refine bdc fun i10 => ?_
    show G 174 988 [some (.inr (.inr x0)), some (.inl x1), some (.inl x2), some (.inl x3), some (.inl x4), some (.inl x5), some (.inl x6), some (.inl x7), some (.inl x8), some (.inl x9)] [.inl i10, .inl 7, .inr (.inr r9)] H = _
    refine Eq.trans (e1 hG PT_174 k174_988 _ _ _) ?_
    show G 174 989 [some (.inr (.inr x0)), some (.inl x1), some (.inl x2), some (.inl x3), some (.inl x4), some (.inl x5), some (.inl x6), some (.inl x7), some (.inl x8), some (.inl x9)] [.inl (7 * i10), .inr (.inr r9)] H = _
    refine Eq.trans (e1 hG PT_174 k174_989 _ _ _) ?_
    show G 174 990 [some (.inr (.inr x0)), some (.inl x1), some (.inl x2), some (.inl x3), some (.inl x4), some (.inl x5), some (.inl x6), some (.inl x7), some (.inl x8), some (.inl x9)] [.inl 3, .inl (7 * i10), .inr (.inr r9)] H = _
    refine Eq.trans (e1 hG PT_174 k174_990 _ _ _) ?_
    show G 174 991 [some (.inr (.inr x0)), some (.inl x1), some (.inl x2), some (.inl x3), some (.inl x4), some (.inl x5), some (.inl x6), some (.inl x7), some (.inl x8), some (.inl x9)] [.inl ((7 * i10) + 3), .inr (.inr r9)] H = _
    refine Eq.trans (e1 hG PT_174 k174_991 _ _ _) ?_
    show G 174 993 [some (.inr (.inr x0)), some (.inl x1), some (.inl x2), some (.inl x3), some (.inl x4), some (.inl x5), some (.inl x6), some (.inl x7), some (.inl x8), some (.inl x9)] [.inl x9, .inl ((7 * i10) + 3), .inr (.inr r9)] H = _
    refine Eq.trans (e1 hG PT_174 k174_993 _ _ _) ?_
    show G 174 994 [some (.inr (.inr x0)), some (.inl x1), some (.inl x2), some (.inl x3), some (.inl x4), some (.inl x5), some (.inl x6), some (.inl x7), some (.inl x8), some (.inl x9)] [.inl (((7 * i10) + 3) + x9), .inr (.inr r9)] H = _
    refine Eq.trans (e1 hG PT_174 k174_994 _ _ _) ?_
    show G 174 995 [some (.inr (.inr x0)), some (.inl x1), some (.inl x2), some (.inl x3), some (.inl x4), some (.inl x5), some (.inl x6), some (.inl x7), some (.inl x8), some (.inl x9)] [.inr (.inr x0), .inl (((7 * i10) + 3) + x9), .inr (.inr r9)] H = _
    refine Eq.trans (e1 hG PT_174 k174_995 _ _ _) ?_
    refine bdc fun r11 => ?_
    show G 174 998 [some (.inr (.inr x0)), some (.inl x1), some (.inl x2), some (.inl x3), some (.inl x4), some (.inl x5), some (.inl x6), some (.inl x7), some (.inl x8), some (.inl x9)] [.inr (.inr r11), .inl (((7 * i10) + 3) + x9), .inr (.inr r9)] H = _
    refine Eq.trans (e1 hG PT_174 k174_998 _ _ _) ?_
    show G 174 1000 [some (.inr (.inr x0)), some (.inl x1), some (.inl x2), some (.inl x3), some (.inl x4), some (.inl x5), some (.inl x6), some (.inl x7), some (.inl x8), some (.inl x9)] [.inl x9, .inr (.inr r11), .inl (((7 * i10) + 3) + x9), .inr (.inr r9)] H = _
    refine Eq.trans (e1 hG PT_174 k174_1000 _ _ _) ?_
    refine bdc fun i12 => ?_
    show G 174 1001 [some (.inr (.inr x0)), some (.inl x1), some (.inl x2), some (.inl x3), some (.inl x4), some (.inl x5), some (.inl x6), some (.inl x7), some (.inl x8), some (.inl x9)] [.inl i12, .inl (((7 * i10) + 3) + x9), .inr (.inr r9)] H = _
    refine Eq.trans (e1 hG PT_174 k174_1001 _ _ _) ?_
    refine bdc fun H13 => ?_
    show G 174 1002 [some (.inr (.inr x0)), some (.inl x1), some (.inl x2), some (.inl x3), some (.inl x4), some (.inl x5), some (.inl x6), some (.inl x7), some (.inl x8), some (.inl x9)] [] H13 = _
    refine Eq.trans (e1 hG PT_174 k174_1002 _ _ _) ?_
    show G 174 1005 [some (.inr (.inr x0)), some (.inl x1), some (.inl x2), some (.inl x3), some (.inl x4), some (.inl x5), some (.inl x6), some (.inl x7), some (.inl x8), some (.inl (x9 + 1))] [] H13 = _
    refine Eq.trans (e1 hG PT_174 k174_1005 _ _ _) ?_
    rfl
set_option maxRecDepth 100000 in
theorem b174_1056 {G : AG} (hG : FIX G) (x0 : Nat) (x1 : Int32) (x2 : Int32) (x3 : Int32) (x4 : Int32) (x5 : Int32) (x6 : Int32) (o7 : Option AV) (o8 : Option AV) (o9 : Option AV) (H : Hp) : G 174 1056 [some (.inr (.inr x0)), some (.inl x1), some (.inl x2), some (.inl x3), some (.inl x4), some (.inl x5), some (.inl x6), o7, o8, o9] [] H = (G 174 41 [some (.inr (.inr x0)), some (.inl x1), some (.inl x2), some (.inl x3), some (.inl x4), some (.inl x5), some (.inl x6), o7, o8, o9] [] H) := by
  refine Eq.trans (e1 hG PT_174 k174_1056 _ _ _) ?_
  rfl
