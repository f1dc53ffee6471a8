-- StepsAheadModel.routine()I
theorem PT_128 : PT 128 = pt128 := rfl
theorem k128_0 : lkp pt128 0 = iP 1 (fAld 0) := rfl
theorem k128_1 : lkp pt128 1 = iRI 4 (gtI 50) := rfl
theorem k128_4 : lkp pt128 4 = iP 6 (fK (.inl 8)) := rfl
theorem k128_6 : lkp pt128 6 = iB 9 12 (b2 (fun x y => decide (x ≠ y))) := rfl
theorem k128_9 : lkp pt128 9 = iP 11 (fK (.inl (-1000003))) := rfl
theorem k128_11 : lkp pt128 11 = iRet rI := rfl
theorem k128_12 : lkp pt128 12 = iP 13 (fAld 0) := rfl
theorem k128_13 : lkp pt128 13 = iRR 16 (gtR 51) := rfl
theorem k128_16 : lkp pt128 16 = iP 17 (fAld 0) := rfl
theorem k128_17 : lkp pt128 17 = iRI 20 (gtI 50) := rfl
theorem k128_20 : lkp pt128 20 = iP 21 (fK (.inl 0)) := rfl
theorem k128_21 : lkp pt128 21 = iW 22 wAI := rfl
theorem k128_22 : lkp pt128 22 = iP 23 (fAld 0) := rfl
theorem k128_23 : lkp pt128 23 = iP 24 fDup := rfl
theorem k128_24 : lkp pt128 24 = iRI 27 (gtI 50) := rfl
theorem k128_27 : lkp pt128 27 = iP 28 (fK (.inl 1)) := rfl
theorem k128_28 : lkp pt128 28 = iP 29 (f2I (fun x y => x + y)) := rfl
theorem k128_29 : lkp pt128 29 = iW 32 (ptI 50) := rfl
theorem k128_32 : lkp pt128 32 = iP 33 (fAld 0) := rfl
theorem k128_33 : lkp pt128 33 = iP 34 (fK (.inl 0)) := rfl
theorem k128_34 : lkp pt128 34 = iW 37 (ptZ 60) := rfl
theorem k128_37 : lkp pt128 37 = iP 38 (fAld 0) := rfl
theorem k128_38 : lkp pt128 38 = iRI 41 (gtI 50) := rfl
theorem k128_41 : lkp pt128 41 = iP 42 (fK (.inl 1)) := rfl
theorem k128_42 : lkp pt128 42 = iP 43 (f2I (fun x y => x - y)) := rfl
theorem k128_43 : lkp pt128 43 = iRet rI := rfl
theorem b128_0 {G : AG} (hG : FIX G) (x0 : Nat) (H : Hp) : G 128 0 [some (.inr (.inr x0))] [] H = ((hgI H x0 50).bind fun i1 => bif decide ((i1 : Int32) ≠ (8 : Int32)) then (hgR H x0 51).bind fun r2 => (hgI H x0 50).bind fun i3 => (hSI H r2 i3 0).bind fun H4 => (hgI H4 x0 50).bind fun i5 => (hpI H4 x0 50 ((i5 + 1))).bind fun H6 => (hpZ H6 x0 60 0).bind fun H7 => (hgI H7 x0 50).bind fun i8 => some (some (.inl ((i8 - 1))), H7) else some (some (.inl ((-1000003))), H)) := by
  refine Eq.trans (e1 hG PT_128 k128_0 _ _ _) ?_
  show G 128 1 [some (.inr (.inr x0))] [.inr (.inr x0)] H = _
  refine Eq.trans (e1 hG PT_128 k128_1 _ _ _) ?_
  refine bdc fun i1 => ?_
  show G 128 4 [some (.inr (.inr x0))] [.inl i1] H = _
  refine Eq.trans (e1 hG PT_128 k128_4 _ _ _) ?_
  show G 128 6 [some (.inr (.inr x0))] [.inl 8, .inl i1] H = _
  refine Eq.trans (e1 hG PT_128 k128_6 _ _ _) ?_
  refine bfc ?_ ?_
  · show G 128 12 [some (.inr (.inr x0))] [] H = _
    refine Eq.trans (e1 hG PT_128 k128_12 _ _ _) ?_
    show G 128 13 [some (.inr (.inr x0))] [.inr (.inr x0)] H = _
    refine Eq.trans (e1 hG PT_128 k128_13 _ _ _) ?_
    refine bdc fun r2 => ?_
    show G 128 16 [some (.inr (.inr x0))] [.inr (.inr r2)] H = _
    refine Eq.trans (e1 hG PT_128 k128_16 _ _ _) ?_
    show G 128 17 [some (.inr (.inr x0))] [.inr (.inr x0), .inr (.inr r2)] H = _
    refine Eq.trans (e1 hG PT_128 k128_17 _ _ _) ?_
    refine bdc fun i3 => ?_
    show G 128 20 [some (.inr (.inr x0))] [.inl i3, .inr (.inr r2)] H = _
    refine Eq.trans (e1 hG PT_128 k128_20 _ _ _) ?_
    show G 128 21 [some (.inr (.inr x0))] [.inl 0, .inl i3, .inr (.inr r2)] H = _
    refine Eq.trans (e1 hG PT_128 k128_21 _ _ _) ?_
    refine bdc fun H4 => ?_
    show G 128 22 [some (.inr (.inr x0))] [] H4 = _
    refine Eq.trans (e1 hG PT_128 k128_22 _ _ _) ?_
    show G 128 23 [some (.inr (.inr x0))] [.inr (.inr x0)] H4 = _
    refine Eq.trans (e1 hG PT_128 k128_23 _ _ _) ?_
    show G 128 24 [some (.inr (.inr x0))] [.inr (.inr x0), .inr (.inr x0)] H4 = _
    refine Eq.trans (e1 hG PT_128 k128_24 _ _ _) ?_
    refine bdc fun i5 => ?_
    show G 128 27 [some (.inr (.inr x0))] [.inl i5, .inr (.inr x0)] H4 = _
    refine Eq.trans (e1 hG PT_128 k128_27 _ _ _) ?_
    show G 128 28 [some (.inr (.inr x0))] [.inl 1, .inl i5, .inr (.inr x0)] H4 = _
    refine Eq.trans (e1 hG PT_128 k128_28 _ _ _) ?_
    show G 128 29 [some (.inr (.inr x0))] [.inl (i5 + 1), .inr (.inr x0)] H4 = _
    refine Eq.trans (e1 hG PT_128 k128_29 _ _ _) ?_
    refine bdc fun H6 => ?_
    show G 128 32 [some (.inr (.inr x0))] [] H6 = _
    refine Eq.trans (e1 hG PT_128 k128_32 _ _ _) ?_
    show G 128 33 [some (.inr (.inr x0))] [.inr (.inr x0)] H6 = _
    refine Eq.trans (e1 hG PT_128 k128_33 _ _ _) ?_
    show G 128 34 [some (.inr (.inr x0))] [.inl 0, .inr (.inr x0)] H6 = _
    refine Eq.trans (e1 hG PT_128 k128_34 _ _ _) ?_
    refine bdc fun H7 => ?_
    show G 128 37 [some (.inr (.inr x0))] [] H7 = _
    refine Eq.trans (e1 hG PT_128 k128_37 _ _ _) ?_
    show G 128 38 [some (.inr (.inr x0))] [.inr (.inr x0)] H7 = _
    refine Eq.trans (e1 hG PT_128 k128_38 _ _ _) ?_
    refine bdc fun i8 => ?_
    show G 128 41 [some (.inr (.inr x0))] [.inl i8] H7 = _
    refine Eq.trans (e1 hG PT_128 k128_41 _ _ _) ?_
    show G 128 42 [some (.inr (.inr x0))] [.inl 1, .inl i8] H7 = _
    refine Eq.trans (e1 hG PT_128 k128_42 _ _ _) ?_
    show G 128 43 [some (.inr (.inr x0))] [.inl (i8 - 1)] H7 = _
    exact e1 hG PT_128 k128_43 _ _ _
  · show G 128 9 [some (.inr (.inr x0))] [] H = _
    refine Eq.trans (e1 hG PT_128 k128_9 _ _ _) ?_
    show G 128 11 [some (.inr (.inr x0))] [.inl (-1000003)] H = _
    exact e1 hG PT_128 k128_11 _ _ _
-- StepsAheadModel.expression(IIIIIII)I
theorem PT_129 : PT 129 = pt129 := rfl
theorem k129_0 : lkp pt129 0 = iP 1 (fIld 1) := rfl
theorem k129_1 : lkp pt129 1 = iP 2 fI2l := rfl
theorem k129_2 : lkp pt129 2 = iP 3 (fK (.inr (.inl 0))) := rfl
theorem k129_3 : lkp pt129 3 = iP 4 (fK (.inr (.inl 1))) := rfl
theorem k129_4 : lkp pt129 4 = iC 7 130 6 3 1 := rfl
theorem k129_7 : lkp pt129 7 = iB 10 86 (b1 (fun x => decide (x = 0))) := rfl
theorem k129_10 : lkp pt129 10 = iP 11 (fIld 2) := rfl
theorem k129_11 : lkp pt129 11 = iP 12 fI2l := rfl
theorem k129_12 : lkp pt129 12 = iP 13 (fK (.inr (.inl 0))) := rfl
theorem k129_13 : lkp pt129 13 = iP 16 (fK (.inr (.inl 2))) := rfl
theorem k129_16 : lkp pt129 16 = iC 19 130 6 3 1 := rfl
theorem k129_19 : lkp pt129 19 = iB 22 86 (b1 (fun x => decide (x = 0))) := rfl
theorem k129_22 : lkp pt129 22 = iP 23 (fIld 3) := rfl
theorem k129_23 : lkp pt129 23 = iP 24 fI2l := rfl
theorem k129_24 : lkp pt129 24 = iP 25 (fK (.inr (.inl 0))) := rfl
theorem k129_25 : lkp pt129 25 = iP 28 (fK (.inr (.inl 2))) := rfl
theorem k129_28 : lkp pt129 28 = iC 31 130 6 3 1 := rfl
theorem k129_31 : lkp pt129 31 = iB 34 86 (b1 (fun x => decide (x = 0))) := rfl
theorem k129_34 : lkp pt129 34 = iP 36 (fIld 4) := rfl
theorem k129_36 : lkp pt129 36 = iP 37 fI2l := rfl
theorem k129_37 : lkp pt129 37 = iP 38 (fK (.inr (.inl 0))) := rfl
theorem k129_38 : lkp pt129 38 = iP 41 (fK (.inr (.inl 2))) := rfl
theorem k129_41 : lkp pt129 41 = iC 44 130 6 3 1 := rfl
theorem k129_44 : lkp pt129 44 = iB 47 86 (b1 (fun x => decide (x = 0))) := rfl
theorem k129_47 : lkp pt129 47 = iP 49 (fIld 5) := rfl
theorem k129_49 : lkp pt129 49 = iP 50 fI2l := rfl
theorem k129_50 : lkp pt129 50 = iP 51 (fK (.inr (.inl 0))) := rfl
theorem k129_51 : lkp pt129 51 = iP 54 (fK (.inr (.inl 2))) := rfl
theorem k129_54 : lkp pt129 54 = iC 57 130 6 3 1 := rfl
theorem k129_57 : lkp pt129 57 = iB 60 86 (b1 (fun x => decide (x = 0))) := rfl
theorem k129_60 : lkp pt129 60 = iP 62 (fIld 6) := rfl
theorem k129_62 : lkp pt129 62 = iP 63 fI2l := rfl
theorem k129_63 : lkp pt129 63 = iP 64 (fK (.inr (.inl 0))) := rfl
theorem k129_64 : lkp pt129 64 = iP 67 (fK (.inr (.inl 2))) := rfl
theorem k129_67 : lkp pt129 67 = iC 70 130 6 3 1 := rfl
theorem k129_70 : lkp pt129 70 = iB 73 86 (b1 (fun x => decide (x = 0))) := rfl
theorem k129_73 : lkp pt129 73 = iP 75 (fIld 7) := rfl
theorem k129_75 : lkp pt129 75 = iP 76 fI2l := rfl
theorem k129_76 : lkp pt129 76 = iP 77 (fK (.inr (.inl 0))) := rfl
theorem k129_77 : lkp pt129 77 = iP 80 (fK (.inr (.inl 2))) := rfl
theorem k129_80 : lkp pt129 80 = iC 83 130 6 3 1 := rfl
theorem k129_83 : lkp pt129 83 = iB 86 89 (b1 (fun x => decide (x ≠ 0))) := rfl
theorem k129_86 : lkp pt129 86 = iP 88 (fK (.inl (-1000001))) := rfl
theorem k129_88 : lkp pt129 88 = iRet rI := rfl
theorem k129_89 : lkp pt129 89 = iP 90 (fAld 0) := rfl
theorem k129_90 : lkp pt129 90 = iRR 93 (gtR 56) := rfl
theorem k129_93 : lkp pt129 93 = iP 95 (fK (.inl 6)) := rfl
theorem k129_95 : lkp pt129 95 = iP 96 (fIld 1) := rfl
theorem k129_96 : lkp pt129 96 = iP 97 (f2I (fun x y => x * y)) := rfl
theorem k129_97 : lkp pt129 97 = iP 98 (fIld 2) := rfl
theorem k129_98 : lkp pt129 98 = iW 99 wAI := rfl
theorem k129_99 : lkp pt129 99 = iP 100 (fAld 0) := rfl
theorem k129_100 : lkp pt129 100 = iRR 103 (gtR 56) := rfl
theorem k129_103 : lkp pt129 103 = iP 105 (fK (.inl 6)) := rfl
theorem k129_105 : lkp pt129 105 = iP 106 (fIld 1) := rfl
theorem k129_106 : lkp pt129 106 = iP 107 (f2I (fun x y => x * y)) := rfl
theorem k129_107 : lkp pt129 107 = iP 108 (fK (.inl 1)) := rfl
theorem k129_108 : lkp pt129 108 = iP 109 (f2I (fun x y => x + y)) := rfl
theorem k129_109 : lkp pt129 109 = iP 110 (fIld 3) := rfl
theorem k129_110 : lkp pt129 110 = iW 111 wAI := rfl
theorem k129_111 : lkp pt129 111 = iP 112 (fAld 0) := rfl
theorem k129_112 : lkp pt129 112 = iRR 115 (gtR 56) := rfl
theorem k129_115 : lkp pt129 115 = iP 117 (fK (.inl 6)) := rfl
theorem k129_117 : lkp pt129 117 = iP 118 (fIld 1) := rfl
theorem k129_118 : lkp pt129 118 = iP 119 (f2I (fun x y => x * y)) := rfl
theorem k129_119 : lkp pt129 119 = iP 120 (fK (.inl 2)) := rfl
theorem k129_120 : lkp pt129 120 = iP 121 (f2I (fun x y => x + y)) := rfl
theorem k129_121 : lkp pt129 121 = iP 123 (fIld 4) := rfl
theorem k129_123 : lkp pt129 123 = iW 124 wAI := rfl
theorem k129_124 : lkp pt129 124 = iP 125 (fAld 0) := rfl
theorem k129_125 : lkp pt129 125 = iRR 128 (gtR 56) := rfl
theorem k129_128 : lkp pt129 128 = iP 130 (fK (.inl 6)) := rfl
theorem k129_130 : lkp pt129 130 = iP 131 (fIld 1) := rfl
theorem k129_131 : lkp pt129 131 = iP 132 (f2I (fun x y => x * y)) := rfl
theorem k129_132 : lkp pt129 132 = iP 133 (fK (.inl 3)) := rfl
theorem k129_133 : lkp pt129 133 = iP 134 (f2I (fun x y => x + y)) := rfl
theorem k129_134 : lkp pt129 134 = iP 136 (fIld 5) := rfl
theorem k129_136 : lkp pt129 136 = iW 137 wAI := rfl
theorem k129_137 : lkp pt129 137 = iP 138 (fAld 0) := rfl
theorem k129_138 : lkp pt129 138 = iRR 141 (gtR 56) := rfl
theorem k129_141 : lkp pt129 141 = iP 143 (fK (.inl 6)) := rfl
theorem k129_143 : lkp pt129 143 = iP 144 (fIld 1) := rfl
theorem k129_144 : lkp pt129 144 = iP 145 (f2I (fun x y => x * y)) := rfl
theorem k129_145 : lkp pt129 145 = iP 146 (fK (.inl 4)) := rfl
theorem k129_146 : lkp pt129 146 = iP 147 (f2I (fun x y => x + y)) := rfl
theorem k129_147 : lkp pt129 147 = iP 149 (fIld 6) := rfl
theorem k129_149 : lkp pt129 149 = iW 150 wAI := rfl
theorem k129_150 : lkp pt129 150 = iP 151 (fAld 0) := rfl
theorem k129_151 : lkp pt129 151 = iRR 154 (gtR 56) := rfl
theorem k129_154 : lkp pt129 154 = iP 156 (fK (.inl 6)) := rfl
theorem k129_156 : lkp pt129 156 = iP 157 (fIld 1) := rfl
theorem k129_157 : lkp pt129 157 = iP 158 (f2I (fun x y => x * y)) := rfl
theorem k129_158 : lkp pt129 158 = iP 159 (fK (.inl 5)) := rfl
theorem k129_159 : lkp pt129 159 = iP 160 (f2I (fun x y => x + y)) := rfl
theorem k129_160 : lkp pt129 160 = iP 162 (fIld 7) := rfl
theorem k129_162 : lkp pt129 162 = iW 163 wAI := rfl
theorem k129_163 : lkp pt129 163 = iP 164 (fK (.inl 1)) := rfl
theorem k129_164 : lkp pt129 164 = iRet rI := rfl
theorem b129_0 {G : AG} (hG : FIX G) (x0 : Nat) (x1 : Int32) (x2 : Int32) (x3 : Int32) (x4 : Int32) (x5 : Int32) (x6 : Int32) (x7 : Int32) (H : Hp) : G 129 0 [some (.inr (.inr x0)), some (.inl x1), some (.inl x2), some (.inl x3), some (.inl x4), some (.inl x5), some (.inl x6), some (.inl x7)] [] H = ((G 130 0 [some (.inr (.inl x1.toInt64)), none, some (.inr (.inl 0)), none, some (.inr (.inl 1)), none] [] H).bind fun u1 => (asI u1.1).bind fun i2 => bif decide ((i2 : Int32) = 0) then G 129 86 [some (.inr (.inr x0)), some (.inl x1), some (.inl x2), some (.inl x3), some (.inl x4), some (.inl x5), some (.inl x6), some (.inl x7)] [] u1.2 else (G 130 0 [some (.inr (.inl x2.toInt64)), none, some (.inr (.inl 0)), none, some (.inr (.inl 2)), none] [] u1.2).bind fun u3 => (asI u3.1).bind fun i4 => bif decide ((i4 : Int32) = 0) then G 129 86 [some (.inr (.inr x0)), some (.inl x1), some (.inl x2), some (.inl x3), some (.inl x4), some (.inl x5), some (.inl x6), some (.inl x7)] [] u3.2 else (G 130 0 [some (.inr (.inl x3.toInt64)), none, some (.inr (.inl 0)), none, some (.inr (.inl 2)), none] [] u3.2).bind fun u5 => (asI u5.1).bind fun i6 => bif decide ((i6 : Int32) = 0) then G 129 86 [some (.inr (.inr x0)), some (.inl x1), some (.inl x2), some (.inl x3), some (.inl x4), some (.inl x5), some (.inl x6), some (.inl x7)] [] u5.2 else (G 130 0 [some (.inr (.inl x4.toInt64)), none, some (.inr (.inl 0)), none, some (.inr (.inl 2)), none] [] u5.2).bind fun u7 => (asI u7.1).bind fun i8 => bif decide ((i8 : Int32) = 0) then G 129 86 [some (.inr (.inr x0)), some (.inl x1), some (.inl x2), some (.inl x3), some (.inl x4), some (.inl x5), some (.inl x6), some (.inl x7)] [] u7.2 else (G 130 0 [some (.inr (.inl x5.toInt64)), none, some (.inr (.inl 0)), none, some (.inr (.inl 2)), none] [] u7.2).bind fun u9 => (asI u9.1).bind fun i10 => bif decide ((i10 : Int32) = 0) then G 129 86 [some (.inr (.inr x0)), some (.inl x1), some (.inl x2), some (.inl x3), some (.inl x4), some (.inl x5), some (.inl x6), some (.inl x7)] [] u9.2 else (G 130 0 [some (.inr (.inl x6.toInt64)), none, some (.inr (.inl 0)), none, some (.inr (.inl 2)), none] [] u9.2).bind fun u11 => (asI u11.1).bind fun i12 => bif decide ((i12 : Int32) = 0) then G 129 86 [some (.inr (.inr x0)), some (.inl x1), some (.inl x2), some (.inl x3), some (.inl x4), some (.inl x5), some (.inl x6), some (.inl x7)] [] u11.2 else (G 130 0 [some (.inr (.inl x7.toInt64)), none, some (.inr (.inl 0)), none, some (.inr (.inl 2)), none] [] u11.2).bind fun u13 => (asI u13.1).bind fun i14 => bif decide ((i14 : Int32) ≠ 0) then (hgR u13.2 x0 56).bind fun r15 => (hSI u13.2 r15 ((6 * x1)) x2).bind fun H16 => (hgR H16 x0 56).bind fun r17 => (hSI H16 r17 (((6 * x1) + 1)) x3).bind fun H18 => (hgR H18 x0 56).bind fun r19 => (hSI H18 r19 (((6 * x1) + 2)) x4).bind fun H20 => (hgR H20 x0 56).bind fun r21 => (hSI H20 r21 (((6 * x1) + 3)) x5).bind fun H22 => (hgR H22 x0 56).bind fun r23 => (hSI H22 r23 (((6 * x1) + 4)) x6).bind fun H24 => (hgR H24 x0 56).bind fun r25 => (hSI H24 r25 (((6 * x1) + 5)) x7).bind fun H26 => some (some (.inl 1), H26) else G 129 86 [some (.inr (.inr x0)), some (.inl x1), some (.inl x2), some (.inl x3), some (.inl x4), some (.inl x5), some (.inl x6), some (.inl x7)] [] u13.2) := by
  refine Eq.trans (e1 hG PT_129 k129_0 _ _ _) ?_
  show G 129 1 [some (.inr (.inr x0)), some (.inl x1), some (.inl x2), some (.inl x3), some (.inl x4), some (.inl x5), some (.inl x6), some (.inl x7)] [.inl x1] H = _
  refine Eq.trans (e1 hG PT_129 k129_1 _ _ _) ?_
  show G 129 2 [some (.inr (.inr x0)), some (.inl x1), some (.inl x2), some (.inl x3), some (.inl x4), some (.inl x5), some (.inl x6), some (.inl x7)] [.inr (.inl x1.toInt64)] H = _
  refine Eq.trans (e1 hG PT_129 k129_2 _ _ _) ?_
  show G 129 3 [some (.inr (.inr x0)), some (.inl x1), some (.inl x2), some (.inl x3), some (.inl x4), some (.inl x5), some (.inl x6), some (.inl x7)] [.inr (.inl 0), .inr (.inl x1.toInt64)] H = _
  refine Eq.trans (e1 hG PT_129 k129_3 _ _ _) ?_
  show G 129 4 [some (.inr (.inr x0)), some (.inl x1), some (.inl x2), some (.inl x3), some (.inl x4), some (.inl x5), some (.inl x6), some (.inl x7)] [.inr (.inl 1), .inr (.inl 0), .inr (.inl x1.toInt64)] H = _
  refine Eq.trans (e1 hG PT_129 k129_4 _ _ _) ?_
  refine bdc fun u1 => ?_
  refine bdc fun i2 => ?_
  show G 129 7 [some (.inr (.inr x0)), some (.inl x1), some (.inl x2), some (.inl x3), some (.inl x4), some (.inl x5), some (.inl x6), some (.inl x7)] [.inl i2] u1.2 = _
  refine Eq.trans (e1 hG PT_129 k129_7 _ _ _) ?_
  refine bfc ?_ ?_
  · rfl
  · show G 129 10 [some (.inr (.inr x0)), some (.inl x1), some (.inl x2), some (.inl x3), some (.inl x4), some (.inl x5), some (.inl x6), some (.inl x7)] [] u1.2 = _
    refine Eq.trans (e1 hG PT_129 k129_10 _ _ _) ?_
    show G 129 11 [some (.inr (.inr x0)), some (.inl x1), some (.inl x2), some (.inl x3), some (.inl x4), some (.inl x5), some (.inl x6), some (.inl x7)] [.inl x2] u1.2 = _
    refine Eq.trans (e1 hG PT_129 k129_11 _ _ _) ?_
    show G 129 12 [some (.inr (.inr x0)), some (.inl x1), some (.inl x2), some (.inl x3), some (.inl x4), some (.inl x5), some (.inl x6), some (.inl x7)] [.inr (.inl x2.toInt64)] u1.2 = _
    refine Eq.trans (e1 hG PT_129 k129_12 _ _ _) ?_
    show G 129 13 [some (.inr (.inr x0)), some (.inl x1), some (.inl x2), some (.inl x3), some (.inl x4), some (.inl x5), some (.inl x6), some (.inl x7)] [.inr (.inl 0), .inr (.inl x2.toInt64)] u1.2 = _
    refine Eq.trans (e1 hG PT_129 k129_13 _ _ _) ?_
    show G 129 16 [some (.inr (.inr x0)), some (.inl x1), some (.inl x2), some (.inl x3), some (.inl x4), some (.inl x5), some (.inl x6), some (.inl x7)] [.inr (.inl 2), .inr (.inl 0), .inr (.inl x2.toInt64)] u1.2 = _
    refine Eq.trans (e1 hG PT_129 k129_16 _ _ _) ?_
    refine bdc fun u3 => ?_
    refine bdc fun i4 => ?_
    show G 129 19 [some (.inr (.inr x0)), some (.inl x1), some (.inl x2), some (.inl x3), some (.inl x4), some (.inl x5), some (.inl x6), some (.inl x7)] [.inl i4] u3.2 = _
    refine Eq.trans (e1 hG PT_129 k129_19 _ _ _) ?_
    refine bfc ?_ ?_
    · rfl
    · show G 129 22 [some (.inr (.inr x0)), some (.inl x1), some (.inl x2), some (.inl x3), some (.inl x4), some (.inl x5), some (.inl x6), some (.inl x7)] [] u3.2 = _
      refine Eq.trans (e1 hG PT_129 k129_22 _ _ _) ?_
      show G 129 23 [some (.inr (.inr x0)), some (.inl x1), some (.inl x2), some (.inl x3), some (.inl x4), some (.inl x5), some (.inl x6), some (.inl x7)] [.inl x3] u3.2 = _
      refine Eq.trans (e1 hG PT_129 k129_23 _ _ _) ?_
      show G 129 24 [some (.inr (.inr x0)), some (.inl x1), some (.inl x2), some (.inl x3), some (.inl x4), some (.inl x5), some (.inl x6), some (.inl x7)] [.inr (.inl x3.toInt64)] u3.2 = _
      refine Eq.trans (e1 hG PT_129 k129_24 _ _ _) ?_
      show G 129 25 [some (.inr (.inr x0)), some (.inl x1), some (.inl x2), some (.inl x3), some (.inl x4), some (.inl x5), some (.inl x6), some (.inl x7)] [.inr (.inl 0), .inr (.inl x3.toInt64)] u3.2 = _
      refine Eq.trans (e1 hG PT_129 k129_25 _ _ _) ?_
      show G 129 28 [some (.inr (.inr x0)), some (.inl x1), some (.inl x2), some (.inl x3), some (.inl x4), some (.inl x5), some (.inl x6), some (.inl x7)] [.inr (.inl 2), .inr (.inl 0), .inr (.inl x3.toInt64)] u3.2 = _
      refine Eq.trans (e1 hG PT_129 k129_28 _ _ _) ?_
      refine bdc fun u5 => ?_
      refine bdc fun i6 => ?_
      show G 129 31 [some (.inr (.inr x0)), some (.inl x1), some (.inl x2), some (.inl x3), some (.inl x4), some (.inl x5), some (.inl x6), some (.inl x7)] [.inl i6] u5.2 = _
      refine Eq.trans (e1 hG PT_129 k129_31 _ _ _) ?_
      refine bfc ?_ ?_
      · rfl
      · show G 129 34 [some (.inr (.inr x0)), some (.inl x1), some (.inl x2), some (.inl x3), some (.inl x4), some (.inl x5), some (.inl x6), some (.inl x7)] [] u5.2 = _
        refine Eq.trans (e1 hG PT_129 k129_34 _ _ _) ?_
        show G 129 36 [some (.inr (.inr x0)), some (.inl x1), some (.inl x2), some (.inl x3), some (.inl x4), some (.inl x5), some (.inl x6), some (.inl x7)] [.inl x4] u5.2 = _
        refine Eq.trans (e1 hG PT_129 k129_36 _ _ _) ?_
        show G 129 37 [some (.inr (.inr x0)), some (.inl x1), some (.inl x2), some (.inl x3), some (.inl x4), some (.inl x5), some (.inl x6), some (.inl x7)] [.inr (.inl x4.toInt64)] u5.2 = _
        refine Eq.trans (e1 hG PT_129 k129_37 _ _ _) ?_
        show G 129 38 [some (.inr (.inr x0)), some (.inl x1), some (.inl x2), some (.inl x3), some (.inl x4), some (.inl x5), some (.inl x6), some (.inl x7)] [.inr (.inl 0), .inr (.inl x4.toInt64)] u5.2 = _
        refine Eq.trans (e1 hG PT_129 k129_38 _ _ _) ?_
        show G 129 41 [some (.inr (.inr x0)), some (.inl x1), some (.inl x2), some (.inl x3), some (.inl x4), some (.inl x5), some (.inl x6), some (.inl x7)] [.inr (.inl 2), .inr (.inl 0), .inr (.inl x4.toInt64)] u5.2 = _
        refine Eq.trans (e1 hG PT_129 k129_41 _ _ _) ?_
        refine bdc fun u7 => ?_
        refine bdc fun i8 => ?_
        show G 129 44 [some (.inr (.inr x0)), some (.inl x1), some (.inl x2), some (.inl x3), some (.inl x4), some (.inl x5), some (.inl x6), some (.inl x7)] [.inl i8] u7.2 = _
        refine Eq.trans (e1 hG PT_129 k129_44 _ _ _) ?_
        refine bfc ?_ ?_
        · rfl
        · show G 129 47 [some (.inr (.inr x0)), some (.inl x1), some (.inl x2), some (.inl x3), some (.inl x4), some (.inl x5), some (.inl x6), some (.inl x7)] [] u7.2 = _
          refine Eq.trans (e1 hG PT_129 k129_47 _ _ _) ?_
          show G 129 49 [some (.inr (.inr x0)), some (.inl x1), some (.inl x2), some (.inl x3), some (.inl x4), some (.inl x5), some (.inl x6), some (.inl x7)] [.inl x5] u7.2 = _
          refine Eq.trans (e1 hG PT_129 k129_49 _ _ _) ?_
          show G 129 50 [some (.inr (.inr x0)), some (.inl x1), some (.inl x2), some (.inl x3), some (.inl x4), some (.inl x5), some (.inl x6), some (.inl x7)] [.inr (.inl x5.toInt64)] u7.2 = _
          refine Eq.trans (e1 hG PT_129 k129_50 _ _ _) ?_
          show G 129 51 [some (.inr (.inr x0)), some (.inl x1), some (.inl x2), some (.inl x3), some (.inl x4), some (.inl x5), some (.inl x6), some (.inl x7)] [.inr (.inl 0), .inr (.inl x5.toInt64)] u7.2 = _
          refine Eq.trans (e1 hG PT_129 k129_51 _ _ _) ?_
          show G 129 54 [some (.inr (.inr x0)), some (.inl x1), some (.inl x2), some (.inl x3), some (.inl x4), some (.inl x5), some (.inl x6), some (.inl x7)] [.inr (.inl 2), .inr (.inl 0), .inr (.inl x5.toInt64)] u7.2 = _
          refine Eq.trans (e1 hG PT_129 k129_54 _ _ _) ?_
          refine bdc fun u9 => ?_
          refine bdc fun i10 => ?_
          show G 129 57 [some (.inr (.inr x0)), some (.inl x1), some (.inl x2), some (.inl x3), some (.inl x4), some (.inl x5), some (.inl x6), some (.inl x7)] [.inl i10] u9.2 = _
          refine Eq.trans (e1 hG PT_129 k129_57 _ _ _) ?_
          refine bfc ?_ ?_
          · rfl
          · show G 129 60 [some (.inr (.inr x0)), some (.inl x1), some (.inl x2), some (.inl x3), some (.inl x4), some (.inl x5), some (.inl x6), some (.inl x7)] [] u9.2 = _
            refine Eq.trans (e1 hG PT_129 k129_60 _ _ _) ?_
            show G 129 62 [some (.inr (.inr x0)), some (.inl x1), some (.inl x2), some (.inl x3), some (.inl x4), some (.inl x5), some (.inl x6), some (.inl x7)] [.inl x6] u9.2 = _
            refine Eq.trans (e1 hG PT_129 k129_62 _ _ _) ?_
            show G 129 63 [some (.inr (.inr x0)), some (.inl x1), some (.inl x2), some (.inl x3), some (.inl x4), some (.inl x5), some (.inl x6), some (.inl x7)] [.inr (.inl x6.toInt64)] u9.2 = _
            refine Eq.trans (e1 hG PT_129 k129_63 _ _ _) ?_
            show G 129 64 [some (.inr (.inr x0)), some (.inl x1), some (.inl x2), some (.inl x3), some (.inl x4), some (.inl x5), some (.inl x6), some (.inl x7)] [.inr (.inl 0), .inr (.inl x6.toInt64)] u9.2 = _
            refine Eq.trans (e1 hG PT_129 k129_64 _ _ _) ?_
            show G 129 67 [some (.inr (.inr x0)), some (.inl x1), some (.inl x2), some (.inl x3), some (.inl x4), some (.inl x5), some (.inl x6), some (.inl x7)] [.inr (.inl 2), .inr (.inl 0), .inr (.inl x6.toInt64)] u9.2 = _
            refine Eq.trans (e1 hG PT_129 k129_67 _ _ _) ?_
            refine bdc fun u11 => ?_
            refine bdc fun i12 => ?_
            show G 129 70 [some (.inr (.inr x0)), some (.inl x1), some (.inl x2), some (.inl x3), some (.inl x4), some (.inl x5), some (.inl x6), some (.inl x7)] [.inl i12] u11.2 = _
            refine Eq.trans (e1 hG PT_129 k129_70 _ _ _) ?_
            refine bfc ?_ ?_
            · rfl
            · show G 129 73 [some (.inr (.inr x0)), some (.inl x1), some (.inl x2), some (.inl x3), some (.inl x4), some (.inl x5), some (.inl x6), some (.inl x7)] [] u11.2 = _
              refine Eq.trans (e1 hG PT_129 k129_73 _ _ _) ?_
              show G 129 75 [some (.inr (.inr x0)), some (.inl x1), some (.inl x2), some (.inl x3), some (.inl x4), some (.inl x5), some (.inl x6), some (.inl x7)] [.inl x7] u11.2 = _
              refine Eq.trans (e1 hG PT_129 k129_75 _ _ _) ?_
              show G 129 76 [some (.inr (.inr x0)), some (.inl x1), some (.inl x2), some (.inl x3), some (.inl x4), some (.inl x5), some (.inl x6), some (.inl x7)] [.inr (.inl x7.toInt64)] u11.2 = _
              refine Eq.trans (e1 hG PT_129 k129_76 _ _ _) ?_
              show G 129 77 [some (.inr (.inr x0)), some (.inl x1), some (.inl x2), some (.inl x3), some (.inl x4), some (.inl x5), some (.inl x6), some (.inl x7)] [.inr (.inl 0), .inr (.inl x7.toInt64)] u11.2 = _
              refine Eq.trans (e1 hG PT_129 k129_77 _ _ _) ?_
              show G 129 80 [some (.inr (.inr x0)), some (.inl x1), some (.inl x2), some (.inl x3), some (.inl x4), some (.inl x5), some (.inl x6), some (.inl x7)] [.inr (.inl 2), .inr (.inl 0), .inr (.inl x7.toInt64)] u11.2 = _
              refine Eq.trans (e1 hG PT_129 k129_80 _ _ _) ?_
              refine bdc fun u13 => ?_
              refine bdc fun i14 => ?_
              show G 129 83 [some (.inr (.inr x0)), some (.inl x1), some (.inl x2), some (.inl x3), some (.inl x4), some (.inl x5), some (.inl x6), some (.inl x7)] [.inl i14] u13.2 = _
              refine Eq.trans (e1 hG PT_129 k129_83 _ _ _) ?_
              refine bfc ?_ ?_
              · show G 129 89 [some (.inr (.inr x0)), some (.inl x1), some (.inl x2), some (.inl x3), some (.inl x4), some (.inl x5), some (.inl x6), some (.inl x7)] [] u13.2 = _
                refine Eq.trans (e1 hG PT_129 k129_89 _ _ _) ?_
                show G 129 90 [some (.inr (.inr x0)), some (.inl x1), some (.inl x2), some (.inl x3), some (.inl x4), some (.inl x5), some (.inl x6), some (.inl x7)] [.inr (.inr x0)] u13.2 = _
                refine Eq.trans (e1 hG PT_129 k129_90 _ _ _) ?_
                refine bdc fun r15 => ?_
                show G 129 93 [some (.inr (.inr x0)), some (.inl x1), some (.inl x2), some (.inl x3), some (.inl x4), some (.inl x5), some (.inl x6), some (.inl x7)] [.inr (.inr r15)] u13.2 = _
                refine Eq.trans (e1 hG PT_129 k129_93 _ _ _) ?_
                show G 129 95 [some (.inr (.inr x0)), some (.inl x1), some (.inl x2), some (.inl x3), some (.inl x4), some (.inl x5), some (.inl x6), some (.inl x7)] [.inl 6, .inr (.inr r15)] u13.2 = _
                refine Eq.trans (e1 hG PT_129 k129_95 _ _ _) ?_
                show G 129 96 [some (.inr (.inr x0)), some (.inl x1), some (.inl x2), some (.inl x3), some (.inl x4), some (.inl x5), some (.inl x6), some (.inl x7)] [.inl x1, .inl 6, .inr (.inr r15)] u13.2 = _
                refine Eq.trans (e1 hG PT_129 k129_96 _ _ _) ?_
                show G 129 97 [some (.inr (.inr x0)), some (.inl x1), some (.inl x2), some (.inl x3), some (.inl x4), some (.inl x5), some (.inl x6), some (.inl x7)] [.inl (6 * x1), .inr (.inr r15)] u13.2 = _
                refine Eq.trans (e1 hG PT_129 k129_97 _ _ _) ?_
                show G 129 98 [some (.inr (.inr x0)), some (.inl x1), some (.inl x2), some (.inl x3), some (.inl x4), some (.inl x5), some (.inl x6), some (.inl x7)] [.inl x2, .inl (6 * x1), .inr (.inr r15)] u13.2 = _
                refine Eq.trans (e1 hG PT_129 k129_98 _ _ _) ?_
                refine bdc fun H16 => ?_
                show G 129 99 [some (.inr (.inr x0)), some (.inl x1), some (.inl x2), some (.inl x3), some (.inl x4), some (.inl x5), some (.inl x6), some (.inl x7)] [] H16 = _
                refine Eq.trans (e1 hG PT_129 k129_99 _ _ _) ?_
                show G 129 100 [some (.inr (.inr x0)), some (.inl x1), some (.inl x2), some (.inl x3), some (.inl x4), some (.inl x5), some (.inl x6), some (.inl x7)] [.inr (.inr x0)] H16 = _
                refine Eq.trans (e1 hG PT_129 k129_100 _ _ _) ?_
                refine bdc fun r17 => ?_
                show G 129 103 [some (.inr (.inr x0)), some (.inl x1), some (.inl x2), some (.inl x3), some (.inl x4), some (.inl x5), some (.inl x6), some (.inl x7)] [.inr (.inr r17)] H16 = _
                refine Eq.trans (e1 hG PT_129 k129_103 _ _ _) ?_
                show G 129 105 [some (.inr (.inr x0)), some (.inl x1), some (.inl x2), some (.inl x3), some (.inl x4), some (.inl x5), some (.inl x6), some (.inl x7)] [.inl 6, .inr (.inr r17)] H16 = _
                refine Eq.trans (e1 hG PT_129 k129_105 _ _ _) ?_
                show G 129 106 [some (.inr (.inr x0)), some (.inl x1), some (.inl x2), some (.inl x3), some (.inl x4), some (.inl x5), some (.inl x6), some (.inl x7)] [.inl x1, .inl 6, .inr (.inr r17)] H16 = _
                refine Eq.trans (e1 hG PT_129 k129_106 _ _ _) ?_
                show G 129 107 [some (.inr (.inr x0)), some (.inl x1), some (.inl x2), some (.inl x3), some (.inl x4), some (.inl x5), some (.inl x6), some (.inl x7)] [.inl (6 * x1), .inr (.inr r17)] H16 = _
                refine Eq.trans (e1 hG PT_129 k129_107 _ _ _) ?_
                show G 129 108 [some (.inr (.inr x0)), some (.inl x1), some (.inl x2), some (.inl x3), some (.inl x4), some (.inl x5), some (.inl x6), some (.inl x7)] [.inl 1, .inl (6 * x1), .inr (.inr r17)] H16 = _
                refine Eq.trans (e1 hG PT_129 k129_108 _ _ _) ?_
                show G 129 109 [some (.inr (.inr x0)), some (.inl x1), some (.inl x2), some (.inl x3), some (.inl x4), some (.inl x5), some (.inl x6), some (.inl x7)] [.inl ((6 * x1) + 1), .inr (.inr r17)] H16 = _
                refine Eq.trans (e1 hG PT_129 k129_109 _ _ _) ?_
                show G 129 110 [some (.inr (.inr x0)), some (.inl x1), some (.inl x2), some (.inl x3), some (.inl x4), some (.inl x5), some (.inl x6), some (.inl x7)] [.inl x3, .inl ((6 * x1) + 1), .inr (.inr r17)] H16 = _
                refine Eq.trans (e1 hG PT_129 k129_110 _ _ _) ?_
                refine bdc fun H18 => ?_
                show G 129 111 [some (.inr (.inr x0)), some (.inl x1), some (.inl x2), some (.inl x3), some (.inl x4), some (.inl x5), some (.inl x6), some (.inl x7)] [] H18 = _
                refine Eq.trans (e1 hG PT_129 k129_111 _ _ _) ?_
                show G 129 112 [some (.inr (.inr x0)), some (.inl x1), some (.inl x2), some (.inl x3), some (.inl x4), some (.inl x5), some (.inl x6), some (.inl x7)] [.inr (.inr x0)] H18 = _
                refine Eq.trans (e1 hG PT_129 k129_112 _ _ _) ?_
                refine bdc fun r19 => ?_
                show G 129 115 [some (.inr (.inr x0)), some (.inl x1), some (.inl x2), some (.inl x3), some (.inl x4), some (.inl x5), some (.inl x6), some (.inl x7)] [.inr (.inr r19)] H18 = _
                refine Eq.trans (e1 hG PT_129 k129_115 _ _ _) ?_
                show G 129 117 [some (.inr (.inr x0)), some (.inl x1), some (.inl x2), some (.inl x3), some (.inl x4), some (.inl x5), some (.inl x6), some (.inl x7)] [.inl 6, .inr (.inr r19)] H18 = _
                refine Eq.trans (e1 hG PT_129 k129_117 _ _ _) ?_
                show G 129 118 [some (.inr (.inr x0)), some (.inl x1), some (.inl x2), some (.inl x3), some (.inl x4), some (.inl x5), some (.inl x6), some (.inl x7)] [.inl x1, .inl 6, .inr (.inr r19)] H18 = _
                refine Eq.trans (e1 hG PT_129 k129_118 _ _ _) ?_
                show G 129 119 [some (.inr (.inr x0)), some (.inl x1), some (.inl x2), some (.inl x3), some (.inl x4), some (.inl x5), some (.inl x6), some (.inl x7)] [.inl (6 * x1), .inr (.inr r19)] H18 = _
                refine Eq.trans (e1 hG PT_129 k129_119 _ _ _) ?_
                show G 129 120 [some (.inr (.inr x0)), some (.inl x1), some (.inl x2), some (.inl x3), some (.inl x4), some (.inl x5), some (.inl x6), some (.inl x7)] [.inl 2, .inl (6 * x1), .inr (.inr r19)] H18 = _
                refine Eq.trans (e1 hG PT_129 k129_120 _ _ _) ?_
                show G 129 121 [some (.inr (.inr x0)), some (.inl x1), some (.inl x2), some (.inl x3), some (.inl x4), some (.inl x5), some (.inl x6), some (.inl x7)] [.inl ((6 * x1) + 2), .inr (.inr r19)] H18 = _
                refine Eq.trans (e1 hG PT_129 k129_121 _ _ _) ?_
                show G 129 123 [some (.inr (.inr x0)), some (.inl x1), some (.inl x2), some (.inl x3), some (.inl x4), some (.inl x5), some (.inl x6), some (.inl x7)] [.inl x4, .inl ((6 * x1) + 2), .inr (.inr r19)] H18 = _
                refine Eq.trans (e1 hG PT_129 k129_123 _ _ _) ?_
                refine bdc fun H20 => ?_
                show G 129 124 [some (.inr (.inr x0)), some (.inl x1), some (.inl x2), some (.inl x3), some (.inl x4), some (.inl x5), some (.inl x6), some (.inl x7)] [] H20 = _
                refine Eq.trans (e1 hG PT_129 k129_124 _ _ _) ?_
                show G 129 125 [some (.inr (.inr x0)), some (.inl x1), some (.inl x2), some (.inl x3), some (.inl x4), some (.inl x5), some (.inl x6), some (.inl x7)] [.inr (.inr x0)] H20 = _
                refine Eq.trans (e1 hG PT_129 k129_125 _ _ _) ?_
                refine bdc fun r21 => ?_
                show G 129 128 [some (.inr (.inr x0)), some (.inl x1), some (.inl x2), some (.inl x3), some (.inl x4), some (.inl x5), some (.inl x6), some (.inl x7)] [.inr (.inr r21)] H20 = _
                refine Eq.trans (e1 hG PT_129 k129_128 _ _ _) ?_
                show G 129 130 [some (.inr (.inr x0)), some (.inl x1), some (.inl x2), some (.inl x3), some (.inl x4), some (.inl x5), some (.inl x6), some (.inl x7)] [.inl 6, .inr (.inr r21)] H20 = _
                refine Eq.trans (e1 hG PT_129 k129_130 _ _ _) ?_
                show G 129 131 [some (.inr (.inr x0)), some (.inl x1), some (.inl x2), some (.inl x3), some (.inl x4), some (.inl x5), some (.inl x6), some (.inl x7)] [.inl x1, .inl 6, .inr (.inr r21)] H20 = _
                refine Eq.trans (e1 hG PT_129 k129_131 _ _ _) ?_
                show G 129 132 [some (.inr (.inr x0)), some (.inl x1), some (.inl x2), some (.inl x3), some (.inl x4), some (.inl x5), some (.inl x6), some (.inl x7)] [.inl (6 * x1), .inr (.inr r21)] H20 = _
                refine Eq.trans (e1 hG PT_129 k129_132 _ _ _) ?_
                show G 129 133 [some (.inr (.inr x0)), some (.inl x1), some (.inl x2), some (.inl x3), some (.inl x4), some (.inl x5), some (.inl x6), some (.inl x7)] [.inl 3, .inl (6 * x1), .inr (.inr r21)] H20 = _
                refine Eq.trans (e1 hG PT_129 k129_133 _ _ _) ?_
                show G 129 134 [some (.inr (.inr x0)), some (.inl x1), some (.inl x2), some (.inl x3), some (.inl x4), some (.inl x5), some (.inl x6), some (.inl x7)] [.inl ((6 * x1) + 3), .inr (.inr r21)] H20 = _
                refine Eq.trans (e1 hG PT_129 k129_134 _ _ _) ?_
                show G 129 136 [some (.inr (.inr x0)), some (.inl x1), some (.inl x2), some (.inl x3), some (.inl x4), some (.inl x5), some (.inl x6), some (.inl x7)] [.inl x5, .inl ((6 * x1) + 3), .inr (.inr r21)] H20 = _
                refine Eq.trans (e1 hG PT_129 k129_136 _ _ _) ?_
                refine bdc fun H22 => ?_
                show G 129 137 [some (.inr (.inr x0)), some (.inl x1), some (.inl x2), some (.inl x3), some (.inl x4), some (.inl x5), some (.inl x6), some (.inl x7)] [] H22 = _
                refine Eq.trans (e1 hG PT_129 k129_137 _ _ _) ?_
                show G 129 138 [some (.inr (.inr x0)), some (.inl x1), some (.inl x2), some (.inl x3), some (.inl x4), some (.inl x5), some (.inl x6), some (.inl x7)] [.inr (.inr x0)] H22 = _
                refine Eq.trans (e1 hG PT_129 k129_138 _ _ _) ?_
                refine bdc fun r23 => ?_
                show G 129 141 [some (.inr (.inr x0)), some (.inl x1), some (.inl x2), some (.inl x3), some (.inl x4), some (.inl x5), some (.inl x6), some (.inl x7)] [.inr (.inr r23)] H22 = _
                refine Eq.trans (e1 hG PT_129 k129_141 _ _ _) ?_
                show G 129 143 [some (.inr (.inr x0)), some (.inl x1), some (.inl x2), some (.inl x3), some (.inl x4), some (.inl x5), some (.inl x6), some (.inl x7)] [.inl 6, .inr (.inr r23)] H22 = _
                refine Eq.trans (e1 hG PT_129 k129_143 _ _ _) ?_
                show G 129 144 [some (.inr (.inr x0)), some (.inl x1), some (.inl x2), some (.inl x3), some (.inl x4), some (.inl x5), some (.inl x6), some (.inl x7)] [.inl x1, .inl 6, .inr (.inr r23)] H22 = _
                refine Eq.trans (e1 hG PT_129 k129_144 _ _ _) ?_
                show G 129 145 [some (.inr (.inr x0)), some (.inl x1), some (.inl x2), some (.inl x3), some (.inl x4), some (.inl x5), some (.inl x6), some (.inl x7)] [.inl (6 * x1), .inr (.inr r23)] H22 = _
                refine Eq.trans (e1 hG PT_129 k129_145 _ _ _) ?_
                show G 129 146 [some (.inr (.inr x0)), some (.inl x1), some (.inl x2), some (.inl x3), some (.inl x4), some (.inl x5), some (.inl x6), some (.inl x7)] [.inl 4, .inl (6 * x1), .inr (.inr r23)] H22 = _
                refine Eq.trans (e1 hG PT_129 k129_146 _ _ _) ?_
                show G 129 147 [some (.inr (.inr x0)), some (.inl x1), some (.inl x2), some (.inl x3), some (.inl x4), some (.inl x5), some (.inl x6), some (.inl x7)] [.inl ((6 * x1) + 4), .inr (.inr r23)] H22 = _
                refine Eq.trans (e1 hG PT_129 k129_147 _ _ _) ?_
                show G 129 149 [some (.inr (.inr x0)), some (.inl x1), some (.inl x2), some (.inl x3), some (.inl x4), some (.inl x5), some (.inl x6), some (.inl x7)] [.inl x6, .inl ((6 * x1) + 4), .inr (.inr r23)] H22 = _
                refine Eq.trans (e1 hG PT_129 k129_149 _ _ _) ?_
                refine bdc fun H24 => ?_
                show G 129 150 [some (.inr (.inr x0)), some (.inl x1), some (.inl x2), some (.inl x3), some (.inl x4), some (.inl x5), some (.inl x6), some (.inl x7)] [] H24 = _
                refine Eq.trans (e1 hG PT_129 k129_150 _ _ _) ?_
                show G 129 151 [some (.inr (.inr x0)), some (.inl x1), some (.inl x2), some (.inl x3), some (.inl x4), some (.inl x5), some (.inl x6), some (.inl x7)] [.inr (.inr x0)] H24 = _
                refine Eq.trans (e1 hG PT_129 k129_151 _ _ _) ?_
                refine bdc fun r25 => ?_
                show G 129 154 [some (.inr (.inr x0)), some (.inl x1), some (.inl x2), some (.inl x3), some (.inl x4), some (.inl x5), some (.inl x6), some (.inl x7)] [.inr (.inr r25)] H24 = _
                refine Eq.trans (e1 hG PT_129 k129_154 _ _ _) ?_
                show G 129 156 [some (.inr (.inr x0)), some (.inl x1), some (.inl x2), some (.inl x3), some (.inl x4), some (.inl x5), some (.inl x6), some (.inl x7)] [.inl 6, .inr (.inr r25)] H24 = _
                refine Eq.trans (e1 hG PT_129 k129_156 _ _ _) ?_
                show G 129 157 [some (.inr (.inr x0)), some (.inl x1), some (.inl x2), some (.inl x3), some (.inl x4), some (.inl x5), some (.inl x6), some (.inl x7)] [.inl x1, .inl 6, .inr (.inr r25)] H24 = _
                refine Eq.trans (e1 hG PT_129 k129_157 _ _ _) ?_
                show G 129 158 [some (.inr (.inr x0)), some (.inl x1), some (.inl x2), some (.inl x3), some (.inl x4), some (.inl x5), some (.inl x6), some (.inl x7)] [.inl (6 * x1), .inr (.inr r25)] H24 = _
                refine Eq.trans (e1 hG PT_129 k129_158 _ _ _) ?_
                show G 129 159 [some (.inr (.inr x0)), some (.inl x1), some (.inl x2), some (.inl x3), some (.inl x4), some (.inl x5), some (.inl x6), some (.inl x7)] [.inl 5, .inl (6 * x1), .inr (.inr r25)] H24 = _
                refine Eq.trans (e1 hG PT_129 k129_159 _ _ _) ?_
                show G 129 160 [some (.inr (.inr x0)), some (.inl x1), some (.inl x2), some (.inl x3), some (.inl x4), some (.inl x5), some (.inl x6), some (.inl x7)] [.inl ((6 * x1) + 5), .inr (.inr r25)] H24 = _
                refine Eq.trans (e1 hG PT_129 k129_160 _ _ _) ?_
                show G 129 162 [some (.inr (.inr x0)), some (.inl x1), some (.inl x2), some (.inl x3), some (.inl x4), some (.inl x5), some (.inl x6), some (.inl x7)] [.inl x7, .inl ((6 * x1) + 5), .inr (.inr r25)] H24 = _
                refine Eq.trans (e1 hG PT_129 k129_162 _ _ _) ?_
                refine bdc fun H26 => ?_
                show G 129 163 [some (.inr (.inr x0)), some (.inl x1), some (.inl x2), some (.inl x3), some (.inl x4), some (.inl x5), some (.inl x6), some (.inl x7)] [] H26 = _
                refine Eq.trans (e1 hG PT_129 k129_163 _ _ _) ?_
                show G 129 164 [some (.inr (.inr x0)), some (.inl x1), some (.inl x2), some (.inl x3), some (.inl x4), some (.inl x5), some (.inl x6), some (.inl x7)] [.inl 1] H26 = _
                exact e1 hG PT_129 k129_164 _ _ _
              · rfl
theorem b129_86 {G : AG} (hG : FIX G) (x0 : Nat) (x1 : Int32) (x2 : Int32) (x3 : Int32) (x4 : Int32) (x5 : Int32) (x6 : Int32) (x7 : Int32) (H : Hp) : G 129 86 [some (.inr (.inr x0)), some (.inl x1), some (.inl x2), some (.inl x3), some (.inl x4), some (.inl x5), some (.inl x6), some (.inl x7)] [] H = (some (some (.inl ((-1000001))), H)) := by
  refine Eq.trans (e1 hG PT_129 k129_86 _ _ _) ?_
  show G 129 88 [some (.inr (.inr x0)), some (.inl x1), some (.inl x2), some (.inl x3), some (.inl x4), some (.inl x5), some (.inl x6), some (.inl x7)] [.inl (-1000001)] H = _
  exact e1 hG PT_129 k129_88 _ _ _
-- StepsAheadModel.in(JJJ)Z
theorem PT_130 : PT 130 = pt130 := rfl
theorem k130_0 : lkp pt130 0 = iP 1 (fJld 0) := rfl
theorem k130_1 : lkp pt130 1 = iP 2 (fJld 2) := rfl
theorem k130_2 : lkp pt130 2 = iP 3 fLcmp := rfl
theorem k130_3 : lkp pt130 3 = iB 6 17 (b1 (fun x => decide (x < 0))) := rfl
theorem k130_6 : lkp pt130 6 = iP 7 (fJld 0) := rfl
theorem k130_7 : lkp pt130 7 = iP 9 (fJld 4) := rfl
theorem k130_9 : lkp pt130 9 = iP 10 fLcmp := rfl
theorem k130_10 : lkp pt130 10 = iB 13 17 (b1 (fun x => decide (0 < x))) := rfl
theorem k130_13 : lkp pt130 13 = iP 14 (fK (.inl 1)) := rfl
theorem k130_14 : lkp pt130 14 = iP 18 fGo := rfl
theorem k130_17 : lkp pt130 17 = iP 18 (fK (.inl 0)) := rfl
theorem k130_18 : lkp pt130 18 = iRet rZ := rfl
theorem b130_0 {G : AG} (hG : FIX G) (x0 : Int64) (x2 : Int64) (x4 : Int64) (H : Hp) : G 130 0 [some (.inr (.inl x0)), none, some (.inr (.inl x2)), none, some (.inr (.inl x4)), none] [] H = (bif decide (((lg_cmp x0 x2) : Int32) < 0) then G 130 17 [some (.inr (.inl x0)), none, some (.inr (.inl x2)), none, some (.inr (.inl x4)), none] [] H else bif decide (0 < ((lg_cmp x0 x4) : Int32)) then G 130 17 [some (.inr (.inl x0)), none, some (.inr (.inl x2)), none, some (.inr (.inl x4)), none] [] H else G 130 18 [some (.inr (.inl x0)), none, some (.inr (.inl x2)), none, some (.inr (.inl x4)), none] [.inl 1] H) := by
  refine Eq.trans (e1 hG PT_130 k130_0 _ _ _) ?_
  show G 130 1 [some (.inr (.inl x0)), none, some (.inr (.inl x2)), none, some (.inr (.inl x4)), none] [.inr (.inl x0)] H = _
  refine Eq.trans (e1 hG PT_130 k130_1 _ _ _) ?_
  show G 130 2 [some (.inr (.inl x0)), none, some (.inr (.inl x2)), none, some (.inr (.inl x4)), none] [.inr (.inl x2), .inr (.inl x0)] H = _
  refine Eq.trans (e1 hG PT_130 k130_2 _ _ _) ?_
  show G 130 3 [some (.inr (.inl x0)), none, some (.inr (.inl x2)), none, some (.inr (.inl x4)), none] [.inl (lg_cmp x0 x2)] H = _
  refine Eq.trans (e1 hG PT_130 k130_3 _ _ _) ?_
  refine bfc ?_ ?_
  · rfl
  · show G 130 6 [some (.inr (.inl x0)), none, some (.inr (.inl x2)), none, some (.inr (.inl x4)), none] [] H = _
    refine Eq.trans (e1 hG PT_130 k130_6 _ _ _) ?_
    show G 130 7 [some (.inr (.inl x0)), none, some (.inr (.inl x2)), none, some (.inr (.inl x4)), none] [.inr (.inl x0)] H = _
    refine Eq.trans (e1 hG PT_130 k130_7 _ _ _) ?_
    show G 130 9 [some (.inr (.inl x0)), none, some (.inr (.inl x2)), none, some (.inr (.inl x4)), none] [.inr (.inl x4), .inr (.inl x0)] H = _
    refine Eq.trans (e1 hG PT_130 k130_9 _ _ _) ?_
    show G 130 10 [some (.inr (.inl x0)), none, some (.inr (.inl x2)), none, some (.inr (.inl x4)), none] [.inl (lg_cmp x0 x4)] H = _
    refine Eq.trans (e1 hG PT_130 k130_10 _ _ _) ?_
    refine bfc ?_ ?_
    · rfl
    · show G 130 13 [some (.inr (.inl x0)), none, some (.inr (.inl x2)), none, some (.inr (.inl x4)), none] [] H = _
      refine Eq.trans (e1 hG PT_130 k130_13 _ _ _) ?_
      show G 130 14 [some (.inr (.inl x0)), none, some (.inr (.inl x2)), none, some (.inr (.inl x4)), none] [.inl 1] H = _
      refine Eq.trans (e1 hG PT_130 k130_14 _ _ _) ?_
      rfl
theorem b130_17 {G : AG} (hG : FIX G) (x0 : Int64) (x2 : Int64) (x4 : Int64) (H : Hp) : G 130 17 [some (.inr (.inl x0)), none, some (.inr (.inl x2)), none, some (.inr (.inl x4)), none] [] H = (G 130 18 [some (.inr (.inl x0)), none, some (.inr (.inl x2)), none, some (.inr (.inl x4)), none] [.inl 0] H) := by
  refine Eq.trans (e1 hG PT_130 k130_17 _ _ _) ?_
  rfl
theorem b130_18 {G : AG} (hG : FIX G) (x0 : Int64) (x2 : Int64) (x4 : Int64) (s0 : Int32) (H : Hp) : G 130 18 [some (.inr (.inl x0)), none, some (.inr (.inl x2)), none, some (.inr (.inl x4)), none] [.inl s0] H = (retZ s0 H) := by
  exact e1 hG PT_130 k130_18 _ _ _
-- StepsAheadModel.work(II)I
theorem PT_131 : PT 131 = pt131 := rfl
theorem k131_0 : lkp pt131 0 = iP 1 (fAld 0) := rfl
theorem k131_1 : lkp pt131 1 = iP 2 (fIld 1) := rfl
theorem k131_2 : lkp pt131 2 = iCK 5 12 132 2 2 1 := rfl
theorem k131_5 : lkp pt131 5 = iB 8 32 (b1 (fun x => decide (x = 0))) := rfl
theorem k131_8 : lkp pt131 8 = iP 9 (fIld 2) := rfl
theorem k131_9 : lkp pt131 9 = iP 10 fI2l := rfl
theorem k131_10 : lkp pt131 10 = iP 11 (fK (.inr (.inl 1))) := rfl
theorem k131_11 : lkp pt131 11 = iP 14 (fK (.inr (.inl 99))) := rfl
theorem k131_14 : lkp pt131 14 = iC 17 130 6 3 1 := rfl
theorem k131_17 : lkp pt131 17 = iB 20 32 (b1 (fun x => decide (x = 0))) := rfl
theorem k131_20 : lkp pt131 20 = iP 21 (fAld 0) := rfl
theorem k131_21 : lkp pt131 21 = iP 22 (fIld 1) := rfl
theorem k131_22 : lkp pt131 22 = iP 23 (fK (.inl 1)) := rfl
theorem k131_23 : lkp pt131 23 = iP 24 (fIld 2) := rfl
theorem k131_24 : lkp pt131 24 = iP 26 (fK (.inl (-1000000))) := rfl
theorem k131_26 : lkp pt131 26 = iCK 29 12 133 7 5 1 := rfl
theorem k131_29 : lkp pt131 29 = iP 34 fGo := rfl
theorem k131_32 : lkp pt131 32 = iP 34 (fK (.inl (-1000001))) := rfl
theorem k131_34 : lkp pt131 34 = iRet rI := rfl
theorem b131_0 {G : AG} (hG : FIX G) (x0 : Nat) (x1 : Int32) (x2 : Int32) (H : Hp) : G 131 0 [some (.inr (.inr x0)), some (.inl x1), some (.inl x2)] [] H = (bif Nat.beq (H.1 x0).1 12 then (G 132 0 [some (.inr (.inr x0)), some (.inl x1)] [] H).bind fun u1 => (asI u1.1).bind fun i2 => bif decide ((i2 : Int32) = 0) then G 131 32 [some (.inr (.inr x0)), some (.inl x1), some (.inl x2)] [] u1.2 else (G 130 0 [some (.inr (.inl x2.toInt64)), none, some (.inr (.inl 1)), none, some (.inr (.inl 99)), none] [] u1.2).bind fun u3 => (asI u3.1).bind fun i4 => bif decide ((i4 : Int32) = 0) then G 131 32 [some (.inr (.inr x0)), some (.inl x1), some (.inl x2)] [] u3.2 else bif Nat.beq (u3.2.1 x0).1 12 then (G 133 0 [some (.inr (.inr x0)), some (.inl x1), some (.inl 1), some (.inl x2), some (.inl ((-1000000))), none, none] [] u3.2).bind fun u5 => (asI u5.1).bind fun i6 => G 131 34 [some (.inr (.inr x0)), some (.inl x1), some (.inl x2)] [.inl i6] u5.2 else none else none) := by
  refine Eq.trans (e1 hG PT_131 k131_0 _ _ _) ?_
  show G 131 1 [some (.inr (.inr x0)), some (.inl x1), some (.inl x2)] [.inr (.inr x0)] H = _
  refine Eq.trans (e1 hG PT_131 k131_1 _ _ _) ?_
  show G 131 2 [some (.inr (.inr x0)), some (.inl x1), some (.inl x2)] [.inl x1, .inr (.inr x0)] H = _
  refine Eq.trans (e1 hG PT_131 k131_2 _ _ _) ?_
  refine bfc ?_ ?_
  · refine bdc fun u1 => ?_
    refine bdc fun i2 => ?_
    show G 131 5 [some (.inr (.inr x0)), some (.inl x1), some (.inl x2)] [.inl i2] u1.2 = _
    refine Eq.trans (e1 hG PT_131 k131_5 _ _ _) ?_
    refine bfc ?_ ?_
    · rfl
    · show G 131 8 [some (.inr (.inr x0)), some (.inl x1), some (.inl x2)] [] u1.2 = _
      refine Eq.trans (e1 hG PT_131 k131_8 _ _ _) ?_
      show G 131 9 [some (.inr (.inr x0)), some (.inl x1), some (.inl x2)] [.inl x2] u1.2 = _
      refine Eq.trans (e1 hG PT_131 k131_9 _ _ _) ?_
      show G 131 10 [some (.inr (.inr x0)), some (.inl x1), some (.inl x2)] [.inr (.inl x2.toInt64)] u1.2 = _
      refine Eq.trans (e1 hG PT_131 k131_10 _ _ _) ?_
      show G 131 11 [some (.inr (.inr x0)), some (.inl x1), some (.inl x2)] [.inr (.inl 1), .inr (.inl x2.toInt64)] u1.2 = _
      refine Eq.trans (e1 hG PT_131 k131_11 _ _ _) ?_
      show G 131 14 [some (.inr (.inr x0)), some (.inl x1), some (.inl x2)] [.inr (.inl 99), .inr (.inl 1), .inr (.inl x2.toInt64)] u1.2 = _
      refine Eq.trans (e1 hG PT_131 k131_14 _ _ _) ?_
      refine bdc fun u3 => ?_
      refine bdc fun i4 => ?_
      show G 131 17 [some (.inr (.inr x0)), some (.inl x1), some (.inl x2)] [.inl i4] u3.2 = _
      refine Eq.trans (e1 hG PT_131 k131_17 _ _ _) ?_
      refine bfc ?_ ?_
      · rfl
      · show G 131 20 [some (.inr (.inr x0)), some (.inl x1), some (.inl x2)] [] u3.2 = _
        refine Eq.trans (e1 hG PT_131 k131_20 _ _ _) ?_
        show G 131 21 [some (.inr (.inr x0)), some (.inl x1), some (.inl x2)] [.inr (.inr x0)] u3.2 = _
        refine Eq.trans (e1 hG PT_131 k131_21 _ _ _) ?_
        show G 131 22 [some (.inr (.inr x0)), some (.inl x1), some (.inl x2)] [.inl x1, .inr (.inr x0)] u3.2 = _
        refine Eq.trans (e1 hG PT_131 k131_22 _ _ _) ?_
        show G 131 23 [some (.inr (.inr x0)), some (.inl x1), some (.inl x2)] [.inl 1, .inl x1, .inr (.inr x0)] u3.2 = _
        refine Eq.trans (e1 hG PT_131 k131_23 _ _ _) ?_
        show G 131 24 [some (.inr (.inr x0)), some (.inl x1), some (.inl x2)] [.inl x2, .inl 1, .inl x1, .inr (.inr x0)] u3.2 = _
        refine Eq.trans (e1 hG PT_131 k131_24 _ _ _) ?_
        show G 131 26 [some (.inr (.inr x0)), some (.inl x1), some (.inl x2)] [.inl (-1000000), .inl x2, .inl 1, .inl x1, .inr (.inr x0)] u3.2 = _
        refine Eq.trans (e1 hG PT_131 k131_26 _ _ _) ?_
        refine bfc ?_ ?_
        · refine bdc fun u5 => ?_
          refine bdc fun i6 => ?_
          show G 131 29 [some (.inr (.inr x0)), some (.inl x1), some (.inl x2)] [.inl i6] u5.2 = _
          refine Eq.trans (e1 hG PT_131 k131_29 _ _ _) ?_
          rfl
        · rfl
  · rfl
theorem b131_32 {G : AG} (hG : FIX G) (x0 : Nat) (x1 : Int32) (x2 : Int32) (H : Hp) : G 131 32 [some (.inr (.inr x0)), some (.inl x1), some (.inl x2)] [] H = (G 131 34 [some (.inr (.inr x0)), some (.inl x1), some (.inl x2)] [.inl (-1000001)] H) := by
  refine Eq.trans (e1 hG PT_131 k131_32 _ _ _) ?_
  rfl
theorem b131_34 {G : AG} (hG : FIX G) (x0 : Nat) (x1 : Int32) (x2 : Int32) (s0 : Int32) (H : Hp) : G 131 34 [some (.inr (.inr x0)), some (.inl x1), some (.inl x2)] [.inl s0] H = (some (some (.inl s0), H)) := by
  exact e1 hG PT_131 k131_34 _ _ _
-- StepsAheadModel.isRoutine(I)Z
theorem PT_132 : PT 132 = pt132 := rfl
theorem k132_0 : lkp pt132 0 = iP 1 (fIld 1) := rfl
theorem k132_1 : lkp pt132 1 = iP 2 fI2l := rfl
theorem k132_2 : lkp pt132 2 = iP 3 (fK (.inr (.inl 0))) := rfl
theorem k132_3 : lkp pt132 3 = iP 4 (fAld 0) := rfl
theorem k132_4 : lkp pt132 4 = iRI 7 (gtI 50) := rfl
theorem k132_7 : lkp pt132 7 = iP 8 (fK (.inl 1)) := rfl
theorem k132_8 : lkp pt132 8 = iP 9 (f2I (fun x y => x - y)) := rfl
theorem k132_9 : lkp pt132 9 = iP 10 fI2l := rfl
theorem k132_10 : lkp pt132 10 = iC 13 130 6 3 1 := rfl
theorem k132_13 : lkp pt132 13 = iRet rZ := rfl
theorem b132_0 {G : AG} (hG : FIX G) (x0 : Nat) (x1 : Int32) (H : Hp) : G 132 0 [some (.inr (.inr x0)), some (.inl x1)] [] H = ((hgI H x0 50).bind fun i1 => (G 130 0 [some (.inr (.inl x1.toInt64)), none, some (.inr (.inl 0)), none, some (.inr (.inl (((i1 - 1)).toInt64))), none] [] H).bind fun u2 => (asI u2.1).bind fun i3 => retZ i3 u2.2) := by
  refine Eq.trans (e1 hG PT_132 k132_0 _ _ _) ?_
  show G 132 1 [some (.inr (.inr x0)), some (.inl x1)] [.inl x1] H = _
  refine Eq.trans (e1 hG PT_132 k132_1 _ _ _) ?_
  show G 132 2 [some (.inr (.inr x0)), some (.inl x1)] [.inr (.inl x1.toInt64)] H = _
  refine Eq.trans (e1 hG PT_132 k132_2 _ _ _) ?_
  show G 132 3 [some (.inr (.inr x0)), some (.inl x1)] [.inr (.inl 0), .inr (.inl x1.toInt64)] H = _
  refine Eq.trans (e1 hG PT_132 k132_3 _ _ _) ?_
  show G 132 4 [some (.inr (.inr x0)), some (.inl x1)] [.inr (.inr x0), .inr (.inl 0), .inr (.inl x1.toInt64)] H = _
  refine Eq.trans (e1 hG PT_132 k132_4 _ _ _) ?_
  refine bdc fun i1 => ?_
  show G 132 7 [some (.inr (.inr x0)), some (.inl x1)] [.inl i1, .inr (.inl 0), .inr (.inl x1.toInt64)] H = _
  refine Eq.trans (e1 hG PT_132 k132_7 _ _ _) ?_
  show G 132 8 [some (.inr (.inr x0)), some (.inl x1)] [.inl 1, .inl i1, .inr (.inl 0), .inr (.inl x1.toInt64)] H = _
  refine Eq.trans (e1 hG PT_132 k132_8 _ _ _) ?_
  show G 132 9 [some (.inr (.inr x0)), some (.inl x1)] [.inl (i1 - 1), .inr (.inl 0), .inr (.inl x1.toInt64)] H = _
  refine Eq.trans (e1 hG PT_132 k132_9 _ _ _) ?_
  show G 132 10 [some (.inr (.inr x0)), some (.inl x1)] [.inr (.inl ((i1 - 1)).toInt64), .inr (.inl 0), .inr (.inl x1.toInt64)] H = _
  refine Eq.trans (e1 hG PT_132 k132_10 _ _ _) ?_
  refine bdc fun u2 => ?_
  refine bdc fun i3 => ?_
  show G 132 13 [some (.inr (.inr x0)), some (.inl x1)] [.inl i3] u2.2 = _
  exact e1 hG PT_132 k132_13 _ _ _
-- StepsAheadModel.come(IIII)I
theorem PT_133 : PT 133 = pt133 := rfl
theorem k133_0 : lkp pt133 0 = iP 1 (fAld 0) := rfl
theorem k133_1 : lkp pt133 1 = iRR 4 (gtR 51) := rfl
theorem k133_4 : lkp pt133 4 = iP 5 (fIld 1) := rfl
theorem k133_5 : lkp pt133 5 = iRI 6 qAI := rfl
theorem k133_6 : lkp pt133 6 = iP 8 (fK (.inl 24)) := rfl
theorem k133_8 : lkp pt133 8 = iB 11 14 (b2 (fun x y => decide (x ≠ y))) := rfl
theorem k133_11 : lkp pt133 11 = iP 13 (fK (.inl (-1000003))) := rfl
theorem k133_13 : lkp pt133 13 = iRet rI := rfl
theorem k133_14 : lkp pt133 14 = iP 16 (fK (.inl 24)) := rfl
theorem k133_16 : lkp pt133 16 = iP 17 (fIld 1) := rfl
theorem k133_17 : lkp pt133 17 = iP 18 (f2I (fun x y => x * y)) := rfl
theorem k133_18 : lkp pt133 18 = iP 19 (fAld 0) := rfl
theorem k133_19 : lkp pt133 19 = iRR 22 (gtR 51) := rfl
theorem k133_22 : lkp pt133 22 = iP 23 (fIld 1) := rfl
theorem k133_23 : lkp pt133 23 = iRI 24 qAI := rfl
theorem k133_24 : lkp pt133 24 = iP 25 (f2I (fun x y => x + y)) := rfl
theorem k133_25 : lkp pt133 25 = iP 27 (fIst 5) := rfl
theorem k133_27 : lkp pt133 27 = iP 28 (fAld 0) := rfl
theorem k133_28 : lkp pt133 28 = iRR 31 (gtR 52) := rfl
theorem k133_31 : lkp pt133 31 = iP 33 (fIld 5) := rfl
theorem k133_33 : lkp pt133 33 = iP 34 (fIld 2) := rfl
theorem k133_34 : lkp pt133 34 = iW 35 wAI := rfl
theorem k133_35 : lkp pt133 35 = iP 36 (fAld 0) := rfl
theorem k133_36 : lkp pt133 36 = iRR 39 (gtR 53) := rfl
theorem k133_39 : lkp pt133 39 = iP 41 (fIld 5) := rfl
theorem k133_41 : lkp pt133 41 = iP 42 (fIld 3) := rfl
theorem k133_42 : lkp pt133 42 = iW 43 wAI := rfl
theorem k133_43 : lkp pt133 43 = iP 44 (fAld 0) := rfl
theorem k133_44 : lkp pt133 44 = iRR 47 (gtR 54) := rfl
theorem k133_47 : lkp pt133 47 = iP 49 (fIld 5) := rfl
theorem k133_49 : lkp pt133 49 = iP 51 (fIld 4) := rfl
theorem k133_51 : lkp pt133 51 = iW 52 wAI := rfl
theorem k133_52 : lkp pt133 52 = iP 53 (fK (.inl 0)) := rfl
theorem k133_53 : lkp pt133 53 = iP 55 (fIst 6) := rfl
theorem k133_55 : lkp pt133 55 = iP 57 (fIld 6) := rfl
theorem k133_57 : lkp pt133 57 = iP 59 (fK (.inl 12)) := rfl
theorem k133_59 : lkp pt133 59 = iB 62 88 (b2 (fun x y => decide (y ≤ x))) := rfl
theorem k133_62 : lkp pt133 62 = iP 63 (fAld 0) := rfl
theorem k133_63 : lkp pt133 63 = iRR 66 (gtR 55) := rfl
theorem k133_66 : lkp pt133 66 = iP 68 (fK (.inl 12)) := rfl
theorem k133_68 : lkp pt133 68 = iP 70 (fIld 5) := rfl
theorem k133_70 : lkp pt133 70 = iP 71 (f2I (fun x y => x * y)) := rfl
theorem k133_71 : lkp pt133 71 = iP 73 (fIld 6) := rfl
theorem k133_73 : lkp pt133 73 = iP 74 (f2I (fun x y => x + y)) := rfl
theorem k133_74 : lkp pt133 74 = iP 75 (fAld 0) := rfl
theorem k133_75 : lkp pt133 75 = iRR 78 (gtR 56) := rfl
theorem k133_78 : lkp pt133 78 = iP 80 (fIld 6) := rfl
theorem k133_80 : lkp pt133 80 = iRI 81 qAI := rfl
theorem k133_81 : lkp pt133 81 = iW 82 wAI := rfl
theorem k133_82 : lkp pt133 82 = iP 85 (fInc 6 1) := rfl
theorem k133_85 : lkp pt133 85 = iP 55 fGo := rfl
theorem k133_88 : lkp pt133 88 = iP 89 (fAld 0) := rfl
theorem k133_89 : lkp pt133 89 = iRR 92 (gtR 51) := rfl
theorem k133_92 : lkp pt133 92 = iP 93 (fIld 1) := rfl
theorem k133_93 : lkp pt133 93 = iP 94 fDup2 := rfl
theorem k133_94 : lkp pt133 94 = iRI 95 qAI := rfl
theorem k133_95 : lkp pt133 95 = iP 96 (fK (.inl 1)) := rfl
theorem k133_96 : lkp pt133 96 = iP 97 (f2I (fun x y => x + y)) := rfl
theorem k133_97 : lkp pt133 97 = iW 98 wAI := rfl
theorem k133_98 : lkp pt133 98 = iP 99 (fAld 0) := rfl
theorem k133_99 : lkp pt133 99 = iP 100 (fK (.inl 0)) := rfl
theorem k133_100 : lkp pt133 100 = iW 103 (ptZ 60) := rfl
theorem k133_103 : lkp pt133 103 = iP 104 (fAld 0) := rfl
theorem k133_104 : lkp pt133 104 = iRR 107 (gtR 51) := rfl
theorem k133_107 : lkp pt133 107 = iP 108 (fIld 1) := rfl
theorem k133_108 : lkp pt133 108 = iRI 109 qAI := rfl
theorem k133_109 : lkp pt133 109 = iP 110 (fK (.inl 1)) := rfl
theorem k133_110 : lkp pt133 110 = iP 111 (f2I (fun x y => x - y)) := rfl
theorem k133_111 : lkp pt133 111 = iRet rI := rfl
theorem b133_0 {G : AG} (hG : FIX G) (x0 : Nat) (x1 : Int32) (x2 : Int32) (x3 : Int32) (x4 : Int32) (H : Hp) : G 133 0 [some (.inr (.inr x0)), some (.inl x1), some (.inl x2), some (.inl x3), some (.inl x4), none, none] [] H = ((hgR H x0 51).bind fun r1 => (hAI H r1 x1).bind fun i2 => bif decide ((i2 : Int32) ≠ (24 : Int32)) then (hgR H x0 51).bind fun r3 => (hAI H r3 x1).bind fun i4 => (hgR H x0 52).bind fun r5 => (hSI H r5 (((24 * x1) + i4)) x2).bind fun H6 => (hgR H6 x0 53).bind fun r7 => (hSI H6 r7 (((24 * x1) + i4)) x3).bind fun H8 => (hgR H8 x0 54).bind fun r9 => (hSI H8 r9 (((24 * x1) + i4)) x4).bind fun H10 => G 133 55 [some (.inr (.inr x0)), some (.inl x1), some (.inl x2), some (.inl x3), some (.inl x4), some (.inl ((24 * x1) + i4)), some (.inl 0)] [] H10 else some (some (.inl ((-1000003))), H)) := by
  refine Eq.trans (e1 hG PT_133 k133_0 _ _ _) ?_
  show G 133 1 [some (.inr (.inr x0)), some (.inl x1), some (.inl x2), some (.inl x3), some (.inl x4), none, none] [.inr (.inr x0)] H = _
  refine Eq.trans (e1 hG PT_133 k133_1 _ _ _) ?_
  refine bdc fun r1 => ?_
  show G 133 4 [some (.inr (.inr x0)), some (.inl x1), some (.inl x2), some (.inl x3), some (.inl x4), none, none] [.inr (.inr r1)] H = _
  refine Eq.trans (e1 hG PT_133 k133_4 _ _ _) ?_
  show G 133 5 [some (.inr (.inr x0)), some (.inl x1), some (.inl x2), some (.inl x3), some (.inl x4), none, none] [.inl x1, .inr (.inr r1)] H = _
  refine Eq.trans (e1 hG PT_133 k133_5 _ _ _) ?_
  refine bdc fun i2 => ?_
  show G 133 6 [some (.inr (.inr x0)), some (.inl x1), some (.inl x2), some (.inl x3), some (.inl x4), none, none] [.inl i2] H = _
  refine Eq.trans (e1 hG PT_133 k133_6 _ _ _) ?_
  show G 133 8 [some (.inr (.inr x0)), some (.inl x1), some (.inl x2), some (.inl x3), some (.inl x4), none, none] [.inl 24, .inl i2] H = _
  refine Eq.trans (e1 hG PT_133 k133_8 _ _ _) ?_
  refine bfc ?_ ?_
  · show G 133 14 [some (.inr (.inr x0)), some (.inl x1), some (.inl x2), some (.inl x3), some (.inl x4), none, none] [] H = _
    refine Eq.trans (e1 hG PT_133 k133_14 _ _ _) ?_
    show G 133 16 [some (.inr (.inr x0)), some (.inl x1), some (.inl x2), some (.inl x3), some (.inl x4), none, none] [.inl 24] H = _
    refine Eq.trans (e1 hG PT_133 k133_16 _ _ _) ?_
    show G 133 17 [some (.inr (.inr x0)), some (.inl x1), some (.inl x2), some (.inl x3), some (.inl x4), none, none] [.inl x1, .inl 24] H = _
    refine Eq.trans (e1 hG PT_133 k133_17 _ _ _) ?_
    show G 133 18 [some (.inr (.inr x0)), some (.inl x1), some (.inl x2), some (.inl x3), some (.inl x4), none, none] [.inl (24 * x1)] H = _
    refine Eq.trans (e1 hG PT_133 k133_18 _ _ _) ?_
    show G 133 19 [some (.inr (.inr x0)), some (.inl x1), some (.inl x2), some (.inl x3), some (.inl x4), none, none] [.inr (.inr x0), .inl (24 * x1)] H = _
    refine Eq.trans (e1 hG PT_133 k133_19 _ _ _) ?_
    refine bdc fun r3 => ?_
    show G 133 22 [some (.inr (.inr x0)), some (.inl x1), some (.inl x2), some (.inl x3), some (.inl x4), none, none] [.inr (.inr r3), .inl (24 * x1)] H = _
    refine Eq.trans (e1 hG PT_133 k133_22 _ _ _) ?_
    show G 133 23 [some (.inr (.inr x0)), some (.inl x1), some (.inl x2), some (.inl x3), some (.inl x4), none, none] [.inl x1, .inr (.inr r3), .inl (24 * x1)] H = _
    refine Eq.trans (e1 hG PT_133 k133_23 _ _ _) ?_
    refine bdc fun i4 => ?_
    show G 133 24 [some (.inr (.inr x0)), some (.inl x1), some (.inl x2), some (.inl x3), some (.inl x4), none, none] [.inl i4, .inl (24 * x1)] H = _
    refine Eq.trans (e1 hG PT_133 k133_24 _ _ _) ?_
    show G 133 25 [some (.inr (.inr x0)), some (.inl x1), some (.inl x2), some (.inl x3), some (.inl x4), none, none] [.inl ((24 * x1) + i4)] H = _
    refine Eq.trans (e1 hG PT_133 k133_25 _ _ _) ?_
    show G 133 27 [some (.inr (.inr x0)), some (.inl x1), some (.inl x2), some (.inl x3), some (.inl x4), some (.inl ((24 * x1) + i4)), none] [] H = _
    refine Eq.trans (e1 hG PT_133 k133_27 _ _ _) ?_
    show G 133 28 [some (.inr (.inr x0)), some (.inl x1), some (.inl x2), some (.inl x3), some (.inl x4), some (.inl ((24 * x1) + i4)), none] [.inr (.inr x0)] H = _
    refine Eq.trans (e1 hG PT_133 k133_28 _ _ _) ?_
    refine bdc fun r5 => ?_
    show G 133 31 [some (.inr (.inr x0)), some (.inl x1), some (.inl x2), some (.inl x3), some (.inl x4), some (.inl ((24 * x1) + i4)), none] [.inr (.inr r5)] H = _
    refine Eq.trans (e1 hG PT_133 k133_31 _ _ _) ?_
    show G 133 33 [some (.inr (.inr x0)), some (.inl x1), some (.inl x2), some (.inl x3), some (.inl x4), some (.inl ((24 * x1) + i4)), none] [.inl ((24 * x1) + i4), .inr (.inr r5)] H = _
    refine Eq.trans (e1 hG PT_133 k133_33 _ _ _) ?_
    show G 133 34 [some (.inr (.inr x0)), some (.inl x1), some (.inl x2), some (.inl x3), some (.inl x4), some (.inl ((24 * x1) + i4)), none] [.inl x2, .inl ((24 * x1) + i4), .inr (.inr r5)] H = _
    refine Eq.trans (e1 hG PT_133 k133_34 _ _ _) ?_
    refine bdc fun H6 => ?_
    show G 133 35 [some (.inr (.inr x0)), some (.inl x1), some (.inl x2), some (.inl x3), some (.inl x4), some (.inl ((24 * x1) + i4)), none] [] H6 = _
    refine Eq.trans (e1 hG PT_133 k133_35 _ _ _) ?_
    show G 133 36 [some (.inr (.inr x0)), some (.inl x1), some (.inl x2), some (.inl x3), some (.inl x4), some (.inl ((24 * x1) + i4)), none] [.inr (.inr x0)] H6 = _
    refine Eq.trans (e1 hG PT_133 k133_36 _ _ _) ?_
    refine bdc fun r7 => ?_
    show G 133 39 [some (.inr (.inr x0)), some (.inl x1), some (.inl x2), some (.inl x3), some (.inl x4), some (.inl ((24 * x1) + i4)), none] [.inr (.inr r7)] H6 = _
    refine Eq.trans (e1 hG PT_133 k133_39 _ _ _) ?_
    show G 133 41 [some (.inr (.inr x0)), some (.inl x1), some (.inl x2), some (.inl x3), some (.inl x4), some (.inl ((24 * x1) + i4)), none] [.inl ((24 * x1) + i4), .inr (.inr r7)] H6 = _
    refine Eq.trans (e1 hG PT_133 k133_41 _ _ _) ?_
    show G 133 42 [some (.inr (.inr x0)), some (.inl x1), some (.inl x2), some (.inl x3), some (.inl x4), some (.inl ((24 * x1) + i4)), none] [.inl x3, .inl ((24 * x1) + i4), .inr (.inr r7)] H6 = _
    refine Eq.trans (e1 hG PT_133 k133_42 _ _ _) ?_
    refine bdc fun H8 => ?_
    show G 133 43 [some (.inr (.inr x0)), some (.inl x1), some (.inl x2), some (.inl x3), some (.inl x4), some (.inl ((24 * x1) + i4)), none] [] H8 = _
    refine Eq.trans (e1 hG PT_133 k133_43 _ _ _) ?_
    show G 133 44 [some (.inr (.inr x0)), some (.inl x1), some (.inl x2), some (.inl x3), some (.inl x4), some (.inl ((24 * x1) + i4)), none] [.inr (.inr x0)] H8 = _
    refine Eq.trans (e1 hG PT_133 k133_44 _ _ _) ?_
    refine bdc fun r9 => ?_
    show G 133 47 [some (.inr (.inr x0)), some (.inl x1), some (.inl x2), some (.inl x3), some (.inl x4), some (.inl ((24 * x1) + i4)), none] [.inr (.inr r9)] H8 = _
    refine Eq.trans (e1 hG PT_133 k133_47 _ _ _) ?_
    show G 133 49 [some (.inr (.inr x0)), some (.inl x1), some (.inl x2), some (.inl x3), some (.inl x4), some (.inl ((24 * x1) + i4)), none] [.inl ((24 * x1) + i4), .inr (.inr r9)] H8 = _
    refine Eq.trans (e1 hG PT_133 k133_49 _ _ _) ?_
    show G 133 51 [some (.inr (.inr x0)), some (.inl x1), some (.inl x2), some (.inl x3), some (.inl x4), some (.inl ((24 * x1) + i4)), none] [.inl x4, .inl ((24 * x1) + i4), .inr (.inr r9)] H8 = _
    refine Eq.trans (e1 hG PT_133 k133_51 _ _ _) ?_
    refine bdc fun H10 => ?_
    show G 133 52 [some (.inr (.inr x0)), some (.inl x1), some (.inl x2), some (.inl x3), some (.inl x4), some (.inl ((24 * x1) + i4)), none] [] H10 = _
    refine Eq.trans (e1 hG PT_133 k133_52 _ _ _) ?_
    show G 133 53 [some (.inr (.inr x0)), some (.inl x1), some (.inl x2), some (.inl x3), some (.inl x4), some (.inl ((24 * x1) + i4)), none] [.inl 0] H10 = _
    refine Eq.trans (e1 hG PT_133 k133_53 _ _ _) ?_
    rfl
  · show G 133 11 [some (.inr (.inr x0)), some (.inl x1), some (.inl x2), some (.inl x3), some (.inl x4), none, none] [] H = _
    refine Eq.trans (e1 hG PT_133 k133_11 _ _ _) ?_
    show G 133 13 [some (.inr (.inr x0)), some (.inl x1), some (.inl x2), some (.inl x3), some (.inl x4), none, none] [.inl (-1000003)] H = _
    exact e1 hG PT_133 k133_13 _ _ _
theorem b133_55 {G : AG} (hG : FIX G) (x0 : Nat) (x1 : Int32) (x2 : Int32) (x3 : Int32) (x4 : Int32) (x5 : Int32) (x6 : Int32) (H : Hp) : G 133 55 [some (.inr (.inr x0)), some (.inl x1), some (.inl x2), some (.inl x3), some (.inl x4), some (.inl x5), some (.inl x6)] [] H = (bif decide ((12 : Int32) ≤ (x6 : Int32)) then (hgR H x0 51).bind fun r1 => (hAI H r1 x1).bind fun i2 => (hSI H r1 x1 ((i2 + 1))).bind fun H3 => (hpZ H3 x0 60 0).bind fun H4 => (hgR H4 x0 51).bind fun r5 => (hAI H4 r5 x1).bind fun i6 => some (some (.inl ((i6 - 1))), H4) else (hgR H x0 55).bind fun r7 => (hgR H x0 56).bind fun r8 => (hAI H r8 x6).bind fun i9 => (hSI H r7 (((12 * x5) + x6)) i9).bind fun H10 => G 133 55 [some (.inr (.inr x0)), some (.inl x1), some (.inl x2), some (.inl x3), some (.inl x4), some (.inl x5), some (.inl (x6 + 1))] [] H10) := by
  refine Eq.trans (e1 hG PT_133 k133_55 _ _ _) ?_
  show G 133 57 [some (.inr (.inr x0)), some (.inl x1), some (.inl x2), some (.inl x3), some (.inl x4), some (.inl x5), some (.inl x6)] [.inl x6] H = _
  refine Eq.trans (e1 hG PT_133 k133_57 _ _ _) ?_
  show G 133 59 [some (.inr (.inr x0)), some (.inl x1), some (.inl x2), some (.inl x3), some (.inl x4), some (.inl x5), some (.inl x6)] [.inl 12, .inl x6] H = _
  refine Eq.trans (e1 hG PT_133 k133_59 _ _ _) ?_
  refine bfc ?_ ?_
  · show G 133 88 [some (.inr (.inr x0)), some (.inl x1), some (.inl x2), some (.inl x3), some (.inl x4), some (.inl x5), some (.inl x6)] [] H = _
    refine Eq.trans (e1 hG PT_133 k133_88 _ _ _) ?_
    show G 133 89 [some (.inr (.inr x0)), some (.inl x1), some (.inl x2), some (.inl x3), some (.inl x4), some (.inl x5), some (.inl x6)] [.inr (.inr x0)] H = _
    refine Eq.trans (e1 hG PT_133 k133_89 _ _ _) ?_
    refine bdc fun r1 => ?_
    show G 133 92 [some (.inr (.inr x0)), some (.inl x1), some (.inl x2), some (.inl x3), some (.inl x4), some (.inl x5), some (.inl x6)] [.inr (.inr r1)] H = _
    refine Eq.trans (e1 hG PT_133 k133_92 _ _ _) ?_
    show G 133 93 [some (.inr (.inr x0)), some (.inl x1), some (.inl x2), some (.inl x3), some (.inl x4), some (.inl x5), some (.inl x6)] [.inl x1, .inr (.inr r1)] H = _
    refine Eq.trans (e1 hG PT_133 k133_93 _ _ _) ?_
    show G 133 94 [some (.inr (.inr x0)), some (.inl x1), some (.inl x2), some (.inl x3), some (.inl x4), some (.inl x5), some (.inl x6)] [.inl x1, .inr (.inr r1), .inl x1, .inr (.inr r1)] H = _
    refine Eq.trans (e1 hG PT_133 k133_94 _ _ _) ?_
    refine bdc fun i2 => ?_
    show G 133 95 [some (.inr (.inr x0)), some (.inl x1), some (.inl x2), some (.inl x3), some (.inl x4), some (.inl x5), some (.inl x6)] [.inl i2, .inl x1, .inr (.inr r1)] H = _
    refine Eq.trans (e1 hG PT_133 k133_95 _ _ _) ?_
    show G 133 96 [some (.inr (.inr x0)), some (.inl x1), some (.inl x2), some (.inl x3), some (.inl x4), some (.inl x5), some (.inl x6)] [.inl 1, .inl i2, .inl x1, .inr (.inr r1)] H = _
    refine Eq.trans (e1 hG PT_133 k133_96 _ _ _) ?_
    show G 133 97 [some (.inr (.inr x0)), some (.inl x1), some (.inl x2), some (.inl x3), some (.inl x4), some (.inl x5), some (.inl x6)] [.inl (i2 + 1), .inl x1, .inr (.inr r1)] H = _
    refine Eq.trans (e1 hG PT_133 k133_97 _ _ _) ?_
    refine bdc fun H3 => ?_
    show G 133 98 [some (.inr (.inr x0)), some (.inl x1), some (.inl x2), some (.inl x3), some (.inl x4), some (.inl x5), some (.inl x6)] [] H3 = _
    refine Eq.trans (e1 hG PT_133 k133_98 _ _ _) ?_
    show G 133 99 [some (.inr (.inr x0)), some (.inl x1), some (.inl x2), some (.inl x3), some (.inl x4), some (.inl x5), some (.inl x6)] [.inr (.inr x0)] H3 = _
    refine Eq.trans (e1 hG PT_133 k133_99 _ _ _) ?_
    show G 133 100 [some (.inr (.inr x0)), some (.inl x1), some (.inl x2), some (.inl x3), some (.inl x4), some (.inl x5), some (.inl x6)] [.inl 0, .inr (.inr x0)] H3 = _
    refine Eq.trans (e1 hG PT_133 k133_100 _ _ _) ?_
    refine bdc fun H4 => ?_
    show G 133 103 [some (.inr (.inr x0)), some (.inl x1), some (.inl x2), some (.inl x3), some (.inl x4), some (.inl x5), some (.inl x6)] [] H4 = _
    refine Eq.trans (e1 hG PT_133 k133_103 _ _ _) ?_
    show G 133 104 [some (.inr (.inr x0)), some (.inl x1), some (.inl x2), some (.inl x3), some (.inl x4), some (.inl x5), some (.inl x6)] [.inr (.inr x0)] H4 = _
    refine Eq.trans (e1 hG PT_133 k133_104 _ _ _) ?_
    refine bdc fun r5 => ?_
    show G 133 107 [some (.inr (.inr x0)), some (.inl x1), some (.inl x2), some (.inl x3), some (.inl x4), some (.inl x5), some (.inl x6)] [.inr (.inr r5)] H4 = _
    refine Eq.trans (e1 hG PT_133 k133_107 _ _ _) ?_
    show G 133 108 [some (.inr (.inr x0)), some (.inl x1), some (.inl x2), some (.inl x3), some (.inl x4), some (.inl x5), some (.inl x6)] [.inl x1, .inr (.inr r5)] H4 = _
    refine Eq.trans (e1 hG PT_133 k133_108 _ _ _) ?_
    refine bdc fun i6 => ?_
    show G 133 109 [some (.inr (.inr x0)), some (.inl x1), some (.inl x2), some (.inl x3), some (.inl x4), some (.inl x5), some (.inl x6)] [.inl i6] H4 = _
    refine Eq.trans (e1 hG PT_133 k133_109 _ _ _) ?_
    show G 133 110 [some (.inr (.inr x0)), some (.inl x1), some (.inl x2), some (.inl x3), some (.inl x4), some (.inl x5), some (.inl x6)] [.inl 1, .inl i6] H4 = _
    refine Eq.trans (e1 hG PT_133 k133_110 _ _ _) ?_
    show G 133 111 [some (.inr (.inr x0)), some (.inl x1), some (.inl x2), some (.inl x3), some (.inl x4), some (.inl x5), some (.inl x6)] [.inl (i6 - 1)] H4 = _
    exact e1 hG PT_133 k133_111 _ _ _
  · show G 133 62 [some (.inr (.inr x0)), some (.inl x1), some (.inl x2), some (.inl x3), some (.inl x4), some (.inl x5), some (.inl x6)] [] H = _
    refine Eq.trans (e1 hG PT_133 k133_62 _ _ _) ?_
    show G 133 63 [some (.inr (.inr x0)), some (.inl x1), some (.inl x2), some (.inl x3), some (.inl x4), some (.inl x5), some (.inl x6)] [.inr (.inr x0)] H = _
    refine Eq.trans (e1 hG PT_133 k133_63 _ _ _) ?_
    refine bdc fun r7 => ?_
    show G 133 66 [some (.inr (.inr x0)), some (.inl x1), some (.inl x2), some (.inl x3), some (.inl x4), some (.inl x5), some (.inl x6)] [.inr (.inr r7)] H = _
    refine Eq.trans (e1 hG PT_133 k133_66 _ _ _) ?_
    show G 133 68 [some (.inr (.inr x0)), some (.inl x1), some (.inl x2), some (.inl x3), some (.inl x4), some (.inl x5), some (.inl x6)] [.inl 12, .inr (.inr r7)] H = _
    refine Eq.trans (e1 hG PT_133 k133_68 _ _ _) ?_
    show G 133 70 [some (.inr (.inr x0)), some (.inl x1), some (.inl x2), some (.inl x3), some (.inl x4), some (.inl x5), some (.inl x6)] [.inl x5, .inl 12, .inr (.inr r7)] H = _
    refine Eq.trans (e1 hG PT_133 k133_70 _ _ _) ?_
    show G 133 71 [some (.inr (.inr x0)), some (.inl x1), some (.inl x2), some (.inl x3), some (.inl x4), some (.inl x5), some (.inl x6)] [.inl (12 * x5), .inr (.inr r7)] H = _
    refine Eq.trans (e1 hG PT_133 k133_71 _ _ _) ?_
    show G 133 73 [some (.inr (.inr x0)), some (.inl x1), some (.inl x2), some (.inl x3), some (.inl x4), some (.inl x5), some (.inl x6)] [.inl x6, .inl (12 * x5), .inr (.inr r7)] H = _
    refine Eq.trans (e1 hG PT_133 k133_73 _ _ _) ?_
    show G 133 74 [some (.inr (.inr x0)), some (.inl x1), some (.inl x2), some (.inl x3), some (.inl x4), some (.inl x5), some (.inl x6)] [.inl ((12 * x5) + x6), .inr (.inr r7)] H = _
    refine Eq.trans (e1 hG PT_133 k133_74 _ _ _) ?_
    show G 133 75 [some (.inr (.inr x0)), some (.inl x1), some (.inl x2), some (.inl x3), some (.inl x4), some (.inl x5), some (.inl x6)] [.inr (.inr x0), .inl ((12 * x5) + x6), .inr (.inr r7)] H = _
    refine Eq.trans (e1 hG PT_133 k133_75 _ _ _) ?_
    refine bdc fun r8 => ?_
    show G 133 78 [some (.inr (.inr x0)), some (.inl x1), some (.inl x2), some (.inl x3), some (.inl x4), some (.inl x5), some (.inl x6)] [.inr (.inr r8), .inl ((12 * x5) + x6), .inr (.inr r7)] H = _
    refine Eq.trans (e1 hG PT_133 k133_78 _ _ _) ?_
    show G 133 80 [some (.inr (.inr x0)), some (.inl x1), some (.inl x2), some (.inl x3), some (.inl x4), some (.inl x5), some (.inl x6)] [.inl x6, .inr (.inr r8), .inl ((12 * x5) + x6), .inr (.inr r7)] H = _
    refine Eq.trans (e1 hG PT_133 k133_80 _ _ _) ?_
    refine bdc fun i9 => ?_
    show G 133 81 [some (.inr (.inr x0)), some (.inl x1), some (.inl x2), some (.inl x3), some (.inl x4), some (.inl x5), some (.inl x6)] [.inl i9, .inl ((12 * x5) + x6), .inr (.inr r7)] H = _
    refine Eq.trans (e1 hG PT_133 k133_81 _ _ _) ?_
    refine bdc fun H10 => ?_
    show G 133 82 [some (.inr (.inr x0)), some (.inl x1), some (.inl x2), some (.inl x3), some (.inl x4), some (.inl x5), some (.inl x6)] [] H10 = _
    refine Eq.trans (e1 hG PT_133 k133_82 _ _ _) ?_
    show G 133 85 [some (.inr (.inr x0)), some (.inl x1), some (.inl x2), some (.inl x3), some (.inl x4), some (.inl x5), some (.inl (x6 + 1))] [] H10 = _
    refine Eq.trans (e1 hG PT_133 k133_85 _ _ _) ?_
    rfl
-- StepsAheadModel.loop(I)I
theorem PT_134 : PT 134 = pt134 := rfl
theorem k134_0 : lkp pt134 0 = iP 1 (fAld 0) := rfl
theorem k134_1 : lkp pt134 1 = iP 2 (fIld 1) := rfl
theorem k134_2 : lkp pt134 2 = iCK 5 12 132 2 2 1 := rfl
theorem k134_5 : lkp pt134 5 = iB 8 11 (b1 (fun x => decide (x ≠ 0))) := rfl
theorem k134_8 : lkp pt134 8 = iP 10 (fK (.inl (-1000001))) := rfl
theorem k134_10 : lkp pt134 10 = iRet rI := rfl
theorem k134_11 : lkp pt134 11 = iP 12 (fAld 0) := rfl
theorem k134_12 : lkp pt134 12 = iP 13 (fIld 1) := rfl
theorem k134_13 : lkp pt134 13 = iP 14 (fAld 0) := rfl
theorem k134_14 : lkp pt134 14 = iRR 17 (gtR 51) := rfl
theorem k134_17 : lkp pt134 17 = iP 18 (fIld 1) := rfl
theorem k134_18 : lkp pt134 18 = iRI 19 qAI := rfl
theorem k134_19 : lkp pt134 19 = iCK 22 12 135 5 3 0 := rfl
theorem k134_22 : lkp pt134 22 = iP 23 (fAld 0) := rfl
theorem k134_23 : lkp pt134 23 = iRI 26 (gtI 66) := rfl
theorem k134_26 : lkp pt134 26 = iP 27 (fK (.inl 3)) := rfl
theorem k134_27 : lkp pt134 27 = iB 30 35 (b2 (fun x y => decide (x ≠ y))) := rfl
theorem k134_30 : lkp pt134 30 = iP 32 (fK (.inl (-1000002))) := rfl
theorem k134_32 : lkp pt134 32 = iP 44 fGo := rfl
theorem k134_35 : lkp pt134 35 = iP 36 (fAld 0) := rfl
theorem k134_36 : lkp pt134 36 = iP 37 (fIld 1) := rfl
theorem k134_37 : lkp pt134 37 = iP 38 (fK (.inl 3)) := rfl
theorem k134_38 : lkp pt134 38 = iP 39 (fK (.inl 0)) := rfl
theorem k134_39 : lkp pt134 39 = iP 41 (fK (.inl (-1000000))) := rfl
theorem k134_41 : lkp pt134 41 = iCK 44 12 133 7 5 1 := rfl
theorem k134_44 : lkp pt134 44 = iRet rI := rfl
theorem b134_0 {G : AG} (hG : FIX G) (x0 : Nat) (x1 : Int32) (H : Hp) : G 134 0 [some (.inr (.inr x0)), some (.inl x1)] [] H = (bif Nat.beq (H.1 x0).1 12 then (G 132 0 [some (.inr (.inr x0)), some (.inl x1)] [] H).bind fun u1 => (asI u1.1).bind fun i2 => bif decide ((i2 : Int32) ≠ 0) then (hgR u1.2 x0 51).bind fun r3 => (hAI u1.2 r3 x1).bind fun i4 => bif Nat.beq (u1.2.1 x0).1 12 then (G 135 0 [some (.inr (.inr x0)), some (.inl x1), some (.inl i4), none, none] [] u1.2).bind fun u5 => (asV u5.1).bind fun _ => (hgI u5.2 x0 66).bind fun i6 => bif decide ((i6 : Int32) ≠ (3 : Int32)) then bif Nat.beq (u5.2.1 x0).1 12 then (G 133 0 [some (.inr (.inr x0)), some (.inl x1), some (.inl 3), some (.inl 0), some (.inl ((-1000000))), none, none] [] u5.2).bind fun u7 => (asI u7.1).bind fun i8 => G 134 44 [some (.inr (.inr x0)), some (.inl x1)] [.inl i8] u7.2 else none else G 134 44 [some (.inr (.inr x0)), some (.inl x1)] [.inl (-1000002)] u5.2 else none else some (some (.inl ((-1000001))), u1.2) else none) := by
  refine Eq.trans (e1 hG PT_134 k134_0 _ _ _) ?_
  show G 134 1 [some (.inr (.inr x0)), some (.inl x1)] [.inr (.inr x0)] H = _
  refine Eq.trans (e1 hG PT_134 k134_1 _ _ _) ?_
  show G 134 2 [some (.inr (.inr x0)), some (.inl x1)] [.inl x1, .inr (.inr x0)] H = _
  refine Eq.trans (e1 hG PT_134 k134_2 _ _ _) ?_
  refine bfc ?_ ?_
  · refine bdc fun u1 => ?_
    refine bdc fun i2 => ?_
    show G 134 5 [some (.inr (.inr x0)), some (.inl x1)] [.inl i2] u1.2 = _
    refine Eq.trans (e1 hG PT_134 k134_5 _ _ _) ?_
    refine bfc ?_ ?_
    · show G 134 11 [some (.inr (.inr x0)), some (.inl x1)] [] u1.2 = _
      refine Eq.trans (e1 hG PT_134 k134_11 _ _ _) ?_
      show G 134 12 [some (.inr (.inr x0)), some (.inl x1)] [.inr (.inr x0)] u1.2 = _
      refine Eq.trans (e1 hG PT_134 k134_12 _ _ _) ?_
      show G 134 13 [some (.inr (.inr x0)), some (.inl x1)] [.inl x1, .inr (.inr x0)] u1.2 = _
      refine Eq.trans (e1 hG PT_134 k134_13 _ _ _) ?_
      show G 134 14 [some (.inr (.inr x0)), some (.inl x1)] [.inr (.inr x0), .inl x1, .inr (.inr x0)] u1.2 = _
      refine Eq.trans (e1 hG PT_134 k134_14 _ _ _) ?_
      refine bdc fun r3 => ?_
      show G 134 17 [some (.inr (.inr x0)), some (.inl x1)] [.inr (.inr r3), .inl x1, .inr (.inr x0)] u1.2 = _
      refine Eq.trans (e1 hG PT_134 k134_17 _ _ _) ?_
      show G 134 18 [some (.inr (.inr x0)), some (.inl x1)] [.inl x1, .inr (.inr r3), .inl x1, .inr (.inr x0)] u1.2 = _
      refine Eq.trans (e1 hG PT_134 k134_18 _ _ _) ?_
      refine bdc fun i4 => ?_
      show G 134 19 [some (.inr (.inr x0)), some (.inl x1)] [.inl i4, .inl x1, .inr (.inr x0)] u1.2 = _
      refine Eq.trans (e1 hG PT_134 k134_19 _ _ _) ?_
      refine bfc ?_ ?_
      · refine bdc fun u5 => ?_
        refine bdc fun _ => ?_
        show G 134 22 [some (.inr (.inr x0)), some (.inl x1)] [] u5.2 = _
        refine Eq.trans (e1 hG PT_134 k134_22 _ _ _) ?_
        show G 134 23 [some (.inr (.inr x0)), some (.inl x1)] [.inr (.inr x0)] u5.2 = _
        refine Eq.trans (e1 hG PT_134 k134_23 _ _ _) ?_
        refine bdc fun i6 => ?_
        show G 134 26 [some (.inr (.inr x0)), some (.inl x1)] [.inl i6] u5.2 = _
        refine Eq.trans (e1 hG PT_134 k134_26 _ _ _) ?_
        show G 134 27 [some (.inr (.inr x0)), some (.inl x1)] [.inl 3, .inl i6] u5.2 = _
        refine Eq.trans (e1 hG PT_134 k134_27 _ _ _) ?_
        refine bfc ?_ ?_
        · show G 134 35 [some (.inr (.inr x0)), some (.inl x1)] [] u5.2 = _
          refine Eq.trans (e1 hG PT_134 k134_35 _ _ _) ?_
          show G 134 36 [some (.inr (.inr x0)), some (.inl x1)] [.inr (.inr x0)] u5.2 = _
          refine Eq.trans (e1 hG PT_134 k134_36 _ _ _) ?_
          show G 134 37 [some (.inr (.inr x0)), some (.inl x1)] [.inl x1, .inr (.inr x0)] u5.2 = _
          refine Eq.trans (e1 hG PT_134 k134_37 _ _ _) ?_
          show G 134 38 [some (.inr (.inr x0)), some (.inl x1)] [.inl 3, .inl x1, .inr (.inr x0)] u5.2 = _
          refine Eq.trans (e1 hG PT_134 k134_38 _ _ _) ?_
          show G 134 39 [some (.inr (.inr x0)), some (.inl x1)] [.inl 0, .inl 3, .inl x1, .inr (.inr x0)] u5.2 = _
          refine Eq.trans (e1 hG PT_134 k134_39 _ _ _) ?_
          show G 134 41 [some (.inr (.inr x0)), some (.inl x1)] [.inl (-1000000), .inl 0, .inl 3, .inl x1, .inr (.inr x0)] u5.2 = _
          refine Eq.trans (e1 hG PT_134 k134_41 _ _ _) ?_
          refine bfc ?_ ?_
          · refine bdc fun u7 => ?_
            refine bdc fun i8 => ?_
            rfl
          · rfl
        · show G 134 30 [some (.inr (.inr x0)), some (.inl x1)] [] u5.2 = _
          refine Eq.trans (e1 hG PT_134 k134_30 _ _ _) ?_
          show G 134 32 [some (.inr (.inr x0)), some (.inl x1)] [.inl (-1000002)] u5.2 = _
          refine Eq.trans (e1 hG PT_134 k134_32 _ _ _) ?_
          rfl
      · rfl
    · show G 134 8 [some (.inr (.inr x0)), some (.inl x1)] [] u1.2 = _
      refine Eq.trans (e1 hG PT_134 k134_8 _ _ _) ?_
      show G 134 10 [some (.inr (.inr x0)), some (.inl x1)] [.inl (-1000001)] u1.2 = _
      exact e1 hG PT_134 k134_10 _ _ _
  · rfl
theorem b134_44 {G : AG} (hG : FIX G) (x0 : Nat) (x1 : Int32) (s0 : Int32) (H : Hp) : G 134 44 [some (.inr (.inr x0)), some (.inl x1)] [.inl s0] H = (some (some (.inl s0), H)) := by
  exact e1 hG PT_134 k134_44 _ _ _
-- StepsAheadModel.lookOpen(II)V
theorem PT_135 : PT 135 = pt135 := rfl
theorem k135_0 : lkp pt135 0 = iP 1 (fAld 0) := rfl
theorem k135_1 : lkp pt135 1 = iP 2 (fK (.inl 0)) := rfl
theorem k135_2 : lkp pt135 2 = iW 5 (ptI 63) := rfl
theorem k135_5 : lkp pt135 5 = iP 6 (fAld 0) := rfl
theorem k135_6 : lkp pt135 6 = iP 7 (fK (.inl 0)) := rfl
theorem k135_7 : lkp pt135 7 = iW 10 (ptI 66) := rfl
theorem k135_10 : lkp pt135 10 = iP 11 (fK (.inl 0)) := rfl
theorem k135_11 : lkp pt135 11 = iP 12 (fIst 3) := rfl
theorem k135_12 : lkp pt135 12 = iP 13 (fIld 3) := rfl
theorem k135_13 : lkp pt135 13 = iP 14 (fIld 2) := rfl
theorem k135_14 : lkp pt135 14 = iB 17 178 (b2 (fun x y => decide (y ≤ x))) := rfl
theorem k135_17 : lkp pt135 17 = iP 18 (fAld 0) := rfl
theorem k135_18 : lkp pt135 18 = iRR 21 (gtR 52) := rfl
theorem k135_21 : lkp pt135 21 = iP 23 (fK (.inl 24)) := rfl
theorem k135_23 : lkp pt135 23 = iP 24 (fIld 1) := rfl
theorem k135_24 : lkp pt135 24 = iP 25 (f2I (fun x y => x * y)) := rfl
theorem k135_25 : lkp pt135 25 = iP 26 (fIld 3) := rfl
theorem k135_26 : lkp pt135 26 = iP 27 (f2I (fun x y => x + y)) := rfl
theorem k135_27 : lkp pt135 27 = iRI 28 qAI := rfl
theorem k135_28 : lkp pt135 28 = iP 30 (fIst 4) := rfl
theorem k135_30 : lkp pt135 30 = iP 32 (fIld 4) := rfl
theorem k135_32 : lkp pt135 32 = iP 33 (fK (.inl 3)) := rfl
theorem k135_33 : lkp pt135 33 = iB 36 42 (b2 (fun x y => decide (x = y))) := rfl
theorem k135_36 : lkp pt135 36 = iP 38 (fIld 4) := rfl
theorem k135_38 : lkp pt135 38 = iP 39 (fK (.inl 5)) := rfl
theorem k135_39 : lkp pt135 39 = iB 42 105 (b2 (fun x y => decide (x ≠ y))) := rfl
theorem k135_42 : lkp pt135 42 = iP 43 (fAld 0) := rfl
theorem k135_43 : lkp pt135 43 = iRR 46 (gtR 64) := rfl
theorem k135_46 : lkp pt135 46 = iP 47 (fAld 0) := rfl
theorem k135_47 : lkp pt135 47 = iRI 50 (gtI 63) := rfl
theorem k135_50 : lkp pt135 50 = iP 52 (fIld 4) := rfl
theorem k135_52 : lkp pt135 52 = iP 53 (fK (.inl 3)) := rfl
theorem k135_53 : lkp pt135 53 = iB 56 60 (b2 (fun x y => decide (x ≠ y))) := rfl
theorem k135_56 : lkp pt135 56 = iP 57 (fK (.inl 0)) := rfl
theorem k135_57 : lkp pt135 57 = iP 61 fGo := rfl
theorem k135_60 : lkp pt135 60 = iP 61 (fK (.inl 1)) := rfl
theorem k135_61 : lkp pt135 61 = iW 62 wAI := rfl
theorem k135_62 : lkp pt135 62 = iP 63 (fAld 0) := rfl
theorem k135_63 : lkp pt135 63 = iRR 66 (gtR 65) := rfl
theorem k135_66 : lkp pt135 66 = iP 67 (fAld 0) := rfl
theorem k135_67 : lkp pt135 67 = iRI 70 (gtI 63) := rfl
theorem k135_70 : lkp pt135 70 = iP 71 (fIld 3) := rfl
theorem k135_71 : lkp pt135 71 = iW 72 wAI := rfl
theorem k135_72 : lkp pt135 72 = iP 73 (fAld 0) := rfl
theorem k135_73 : lkp pt135 73 = iP 74 fDup := rfl
theorem k135_74 : lkp pt135 74 = iRI 77 (gtI 63) := rfl
theorem k135_77 : lkp pt135 77 = iP 78 (fK (.inl 1)) := rfl
theorem k135_78 : lkp pt135 78 = iP 79 (f2I (fun x y => x + y)) := rfl
theorem k135_79 : lkp pt135 79 = iW 82 (ptI 63) := rfl
theorem k135_82 : lkp pt135 82 = iP 83 (fAld 0) := rfl
theorem k135_83 : lkp pt135 83 = iP 84 fDup := rfl
theorem k135_84 : lkp pt135 84 = iRI 87 (gtI 66) := rfl
theorem k135_87 : lkp pt135 87 = iP 89 (fIld 4) := rfl
theorem k135_89 : lkp pt135 89 = iP 90 (fK (.inl 3)) := rfl
theorem k135_90 : lkp pt135 90 = iB 93 97 (b2 (fun x y => decide (x ≠ y))) := rfl
theorem k135_93 : lkp pt135 93 = iP 94 (fK (.inl 1)) := rfl
theorem k135_94 : lkp pt135 94 = iP 98 fGo := rfl
theorem k135_97 : lkp pt135 97 = iP 98 (fK (.inl 0)) := rfl
theorem k135_98 : lkp pt135 98 = iP 99 (f2I (fun x y => x + y)) := rfl
theorem k135_99 : lkp pt135 99 = iW 102 (ptI 66) := rfl
theorem k135_102 : lkp pt135 102 = iP 172 fGo := rfl
theorem k135_105 : lkp pt135 105 = iP 107 (fIld 4) := rfl
theorem k135_107 : lkp pt135 107 = iP 109 (fK (.inl 7)) := rfl
theorem k135_109 : lkp pt135 109 = iB 112 127 (b2 (fun x y => decide (x ≠ y))) := rfl
theorem k135_112 : lkp pt135 112 = iP 113 (fAld 0) := rfl
theorem k135_113 : lkp pt135 113 = iRR 116 (gtR 64) := rfl
theorem k135_116 : lkp pt135 116 = iP 117 (fAld 0) := rfl
theorem k135_117 : lkp pt135 117 = iRI 120 (gtI 63) := rfl
theorem k135_120 : lkp pt135 120 = iP 121 (fK (.inl 1)) := rfl
theorem k135_121 : lkp pt135 121 = iP 122 (f2I (fun x y => x - y)) := rfl
theorem k135_122 : lkp pt135 122 = iP 123 (fK (.inl 2)) := rfl
theorem k135_123 : lkp pt135 123 = iW 124 wAI := rfl
theorem k135_124 : lkp pt135 124 = iP 172 fGo := rfl
theorem k135_127 : lkp pt135 127 = iP 129 (fIld 4) := rfl
theorem k135_129 : lkp pt135 129 = iP 131 (fK (.inl 6)) := rfl
theorem k135_131 : lkp pt135 131 = iB 134 141 (b2 (fun x y => decide (x = y))) := rfl
theorem k135_134 : lkp pt135 134 = iP 136 (fIld 4) := rfl
theorem k135_136 : lkp pt135 136 = iP 138 (fK (.inl 8)) := rfl
theorem k135_138 : lkp pt135 138 = iB 141 172 (b2 (fun x y => decide (x ≠ y))) := rfl
theorem k135_141 : lkp pt135 141 = iP 142 (fAld 0) := rfl
theorem k135_142 : lkp pt135 142 = iP 143 fDup := rfl
theorem k135_143 : lkp pt135 143 = iRI 146 (gtI 63) := rfl
theorem k135_146 : lkp pt135 146 = iP 147 (fK (.inl 1)) := rfl
theorem k135_147 : lkp pt135 147 = iP 148 (f2I (fun x y => x - y)) := rfl
theorem k135_148 : lkp pt135 148 = iW 151 (ptI 63) := rfl
theorem k135_151 : lkp pt135 151 = iP 152 (fAld 0) := rfl
theorem k135_152 : lkp pt135 152 = iP 153 fDup := rfl
theorem k135_153 : lkp pt135 153 = iRI 156 (gtI 66) := rfl
theorem k135_156 : lkp pt135 156 = iP 158 (fIld 4) := rfl
theorem k135_158 : lkp pt135 158 = iP 160 (fK (.inl 6)) := rfl
theorem k135_160 : lkp pt135 160 = iB 163 167 (b2 (fun x y => decide (x ≠ y))) := rfl
theorem k135_163 : lkp pt135 163 = iP 164 (fK (.inl 1)) := rfl
theorem k135_164 : lkp pt135 164 = iP 168 fGo := rfl
theorem k135_167 : lkp pt135 167 = iP 168 (fK (.inl 0)) := rfl
theorem k135_168 : lkp pt135 168 = iP 169 (f2I (fun x y => x - y)) := rfl
theorem k135_169 : lkp pt135 169 = iW 172 (ptI 66) := rfl
theorem k135_172 : lkp pt135 172 = iP 175 (fInc 3 1) := rfl
theorem k135_175 : lkp pt135 175 = iP 12 fGo := rfl
theorem k135_178 : lkp pt135 178 = iRet rV := rfl
theorem b135_0 {G : AG} (hG : FIX G) (x0 : Nat) (x1 : Int32) (x2 : Int32) (H : Hp) : G 135 0 [some (.inr (.inr x0)), some (.inl x1), some (.inl x2), none, none] [] H = ((hpI H x0 63 0).bind fun H1 => (hpI H1 x0 66 0).bind fun H2 => G 135 12 [some (.inr (.inr x0)), some (.inl x1), some (.inl x2), some (.inl 0), none] [] H2) := by
  refine Eq.trans (e1 hG PT_135 k135_0 _ _ _) ?_
  show G 135 1 [some (.inr (.inr x0)), some (.inl x1), some (.inl x2), none, none] [.inr (.inr x0)] H = _
  refine Eq.trans (e1 hG PT_135 k135_1 _ _ _) ?_
  show G 135 2 [some (.inr (.inr x0)), some (.inl x1), some (.inl x2), none, none] [.inl 0, .inr (.inr x0)] H = _
  refine Eq.trans (e1 hG PT_135 k135_2 _ _ _) ?_
  refine bdc fun H1 => ?_
  show G 135 5 [some (.inr (.inr x0)), some (.inl x1), some (.inl x2), none, none] [] H1 = _
  refine Eq.trans (e1 hG PT_135 k135_5 _ _ _) ?_
  show G 135 6 [some (.inr (.inr x0)), some (.inl x1), some (.inl x2), none, none] [.inr (.inr x0)] H1 = _
  refine Eq.trans (e1 hG PT_135 k135_6 _ _ _) ?_
  show G 135 7 [some (.inr (.inr x0)), some (.inl x1), some (.inl x2), none, none] [.inl 0, .inr (.inr x0)] H1 = _
  refine Eq.trans (e1 hG PT_135 k135_7 _ _ _) ?_
  refine bdc fun H2 => ?_
  show G 135 10 [some (.inr (.inr x0)), some (.inl x1), some (.inl x2), none, none] [] H2 = _
  refine Eq.trans (e1 hG PT_135 k135_10 _ _ _) ?_
  show G 135 11 [some (.inr (.inr x0)), some (.inl x1), some (.inl x2), none, none] [.inl 0] H2 = _
  refine Eq.trans (e1 hG PT_135 k135_11 _ _ _) ?_
  rfl
theorem b135_12 {G : AG} (hG : FIX G) (x0 : Nat) (x1 : Int32) (x2 : Int32) (x3 : Int32) (o4 : Option AV) (H : Hp) : G 135 12 [some (.inr (.inr x0)), some (.inl x1), some (.inl x2), some (.inl x3), o4] [] H = (bif decide ((x2 : Int32) ≤ (x3 : Int32)) then some (none, H) else (hgR H x0 52).bind fun r1 => (hAI H r1 (((24 * x1) + x3))).bind fun i2 => bif decide ((i2 : Int32) = (3 : Int32)) then G 135 42 [some (.inr (.inr x0)), some (.inl x1), some (.inl x2), some (.inl x3), some (.inl i2)] [] H else bif decide ((i2 : Int32) ≠ (5 : Int32)) then bif decide ((i2 : Int32) ≠ (7 : Int32)) then bif decide ((i2 : Int32) = (6 : Int32)) then G 135 141 [some (.inr (.inr x0)), some (.inl x1), some (.inl x2), some (.inl x3), some (.inl i2)] [] H else bif decide ((i2 : Int32) ≠ (8 : Int32)) then G 135 172 [some (.inr (.inr x0)), some (.inl x1), some (.inl x2), some (.inl x3), some (.inl i2)] [] H else G 135 141 [some (.inr (.inr x0)), some (.inl x1), some (.inl x2), some (.inl x3), some (.inl i2)] [] H else (hgR H x0 64).bind fun r3 => (hgI H x0 63).bind fun i4 => (hSI H r3 ((i4 - 1)) 2).bind fun H5 => G 135 172 [some (.inr (.inr x0)), some (.inl x1), some (.inl x2), some (.inl x3), some (.inl i2)] [] H5 else G 135 42 [some (.inr (.inr x0)), some (.inl x1), some (.inl x2), some (.inl x3), some (.inl i2)] [] H) := by
  refine Eq.trans (e1 hG PT_135 k135_12 _ _ _) ?_
  show G 135 13 [some (.inr (.inr x0)), some (.inl x1), some (.inl x2), some (.inl x3), o4] [.inl x3] H = _
  refine Eq.trans (e1 hG PT_135 k135_13 _ _ _) ?_
  show G 135 14 [some (.inr (.inr x0)), some (.inl x1), some (.inl x2), some (.inl x3), o4] [.inl x2, .inl x3] H = _
  refine Eq.trans (e1 hG PT_135 k135_14 _ _ _) ?_
  refine bfc ?_ ?_
  · show G 135 178 [some (.inr (.inr x0)), some (.inl x1), some (.inl x2), some (.inl x3), o4] [] H = _
    exact e1 hG PT_135 k135_178 _ _ _
  · show G 135 17 [some (.inr (.inr x0)), some (.inl x1), some (.inl x2), some (.inl x3), o4] [] H = _
    refine Eq.trans (e1 hG PT_135 k135_17 _ _ _) ?_
    show G 135 18 [some (.inr (.inr x0)), some (.inl x1), some (.inl x2), some (.inl x3), o4] [.inr (.inr x0)] H = _
    refine Eq.trans (e1 hG PT_135 k135_18 _ _ _) ?_
    refine bdc fun r1 => ?_
    show G 135 21 [some (.inr (.inr x0)), some (.inl x1), some (.inl x2), some (.inl x3), o4] [.inr (.inr r1)] H = _
    refine Eq.trans (e1 hG PT_135 k135_21 _ _ _) ?_
    show G 135 23 [some (.inr (.inr x0)), some (.inl x1), some (.inl x2), some (.inl x3), o4] [.inl 24, .inr (.inr r1)] H = _
    refine Eq.trans (e1 hG PT_135 k135_23 _ _ _) ?_
    show G 135 24 [some (.inr (.inr x0)), some (.inl x1), some (.inl x2), some (.inl x3), o4] [.inl x1, .inl 24, .inr (.inr r1)] H = _
    refine Eq.trans (e1 hG PT_135 k135_24 _ _ _) ?_
    show G 135 25 [some (.inr (.inr x0)), some (.inl x1), some (.inl x2), some (.inl x3), o4] [.inl (24 * x1), .inr (.inr r1)] H = _
    refine Eq.trans (e1 hG PT_135 k135_25 _ _ _) ?_
    show G 135 26 [some (.inr (.inr x0)), some (.inl x1), some (.inl x2), some (.inl x3), o4] [.inl x3, .inl (24 * x1), .inr (.inr r1)] H = _
    refine Eq.trans (e1 hG PT_135 k135_26 _ _ _) ?_
    show G 135 27 [some (.inr (.inr x0)), some (.inl x1), some (.inl x2), some (.inl x3), o4] [.inl ((24 * x1) + x3), .inr (.inr r1)] H = _
    refine Eq.trans (e1 hG PT_135 k135_27 _ _ _) ?_
    refine bdc fun i2 => ?_
    show G 135 28 [some (.inr (.inr x0)), some (.inl x1), some (.inl x2), some (.inl x3), o4] [.inl i2] H = _
    refine Eq.trans (e1 hG PT_135 k135_28 _ _ _) ?_
    show G 135 30 [some (.inr (.inr x0)), some (.inl x1), some (.inl x2), some (.inl x3), some (.inl i2)] [] H = _
    refine Eq.trans (e1 hG PT_135 k135_30 _ _ _) ?_
    show G 135 32 [some (.inr (.inr x0)), some (.inl x1), some (.inl x2), some (.inl x3), some (.inl i2)] [.inl i2] H = _
    refine Eq.trans (e1 hG PT_135 k135_32 _ _ _) ?_
    show G 135 33 [some (.inr (.inr x0)), some (.inl x1), some (.inl x2), some (.inl x3), some (.inl i2)] [.inl 3, .inl i2] H = _
    refine Eq.trans (e1 hG PT_135 k135_33 _ _ _) ?_
    refine bfc ?_ ?_
    · rfl
    · show G 135 36 [some (.inr (.inr x0)), some (.inl x1), some (.inl x2), some (.inl x3), some (.inl i2)] [] H = _
      refine Eq.trans (e1 hG PT_135 k135_36 _ _ _) ?_
      show G 135 38 [some (.inr (.inr x0)), some (.inl x1), some (.inl x2), some (.inl x3), some (.inl i2)] [.inl i2] H = _
      refine Eq.trans (e1 hG PT_135 k135_38 _ _ _) ?_
      show G 135 39 [some (.inr (.inr x0)), some (.inl x1), some (.inl x2), some (.inl x3), some (.inl i2)] [.inl 5, .inl i2] H = _
      refine Eq.trans (e1 hG PT_135 k135_39 _ _ _) ?_
      refine bfc ?_ ?_
      · show G 135 105 [some (.inr (.inr x0)), some (.inl x1), some (.inl x2), some (.inl x3), some (.inl i2)] [] H = _
        refine Eq.trans (e1 hG PT_135 k135_105 _ _ _) ?_
        show G 135 107 [some (.inr (.inr x0)), some (.inl x1), some (.inl x2), some (.inl x3), some (.inl i2)] [.inl i2] H = _
        refine Eq.trans (e1 hG PT_135 k135_107 _ _ _) ?_
        show G 135 109 [some (.inr (.inr x0)), some (.inl x1), some (.inl x2), some (.inl x3), some (.inl i2)] [.inl 7, .inl i2] H = _
        refine Eq.trans (e1 hG PT_135 k135_109 _ _ _) ?_
        refine bfc ?_ ?_
        · show G 135 127 [some (.inr (.inr x0)), some (.inl x1), some (.inl x2), some (.inl x3), some (.inl i2)] [] H = _
          refine Eq.trans (e1 hG PT_135 k135_127 _ _ _) ?_
          show G 135 129 [some (.inr (.inr x0)), some (.inl x1), some (.inl x2), some (.inl x3), some (.inl i2)] [.inl i2] H = _
          refine Eq.trans (e1 hG PT_135 k135_129 _ _ _) ?_
          show G 135 131 [some (.inr (.inr x0)), some (.inl x1), some (.inl x2), some (.inl x3), some (.inl i2)] [.inl 6, .inl i2] H = _
          refine Eq.trans (e1 hG PT_135 k135_131 _ _ _) ?_
          refine bfc ?_ ?_
          · rfl
          · show G 135 134 [some (.inr (.inr x0)), some (.inl x1), some (.inl x2), some (.inl x3), some (.inl i2)] [] H = _
            refine Eq.trans (e1 hG PT_135 k135_134 _ _ _) ?_
            show G 135 136 [some (.inr (.inr x0)), some (.inl x1), some (.inl x2), some (.inl x3), some (.inl i2)] [.inl i2] H = _
            refine Eq.trans (e1 hG PT_135 k135_136 _ _ _) ?_
            show G 135 138 [some (.inr (.inr x0)), some (.inl x1), some (.inl x2), some (.inl x3), some (.inl i2)] [.inl 8, .inl i2] H = _
            refine Eq.trans (e1 hG PT_135 k135_138 _ _ _) ?_
            refine bfc ?_ ?_
            · rfl
            · rfl
        · show G 135 112 [some (.inr (.inr x0)), some (.inl x1), some (.inl x2), some (.inl x3), some (.inl i2)] [] H = _
          refine Eq.trans (e1 hG PT_135 k135_112 _ _ _) ?_
          show G 135 113 [some (.inr (.inr x0)), some (.inl x1), some (.inl x2), some (.inl x3), some (.inl i2)] [.inr (.inr x0)] H = _
          refine Eq.trans (e1 hG PT_135 k135_113 _ _ _) ?_
          refine bdc fun r3 => ?_
          show G 135 116 [some (.inr (.inr x0)), some (.inl x1), some (.inl x2), some (.inl x3), some (.inl i2)] [.inr (.inr r3)] H = _
          refine Eq.trans (e1 hG PT_135 k135_116 _ _ _) ?_
          show G 135 117 [some (.inr (.inr x0)), some (.inl x1), some (.inl x2), some (.inl x3), some (.inl i2)] [.inr (.inr x0), .inr (.inr r3)] H = _
          refine Eq.trans (e1 hG PT_135 k135_117 _ _ _) ?_
          refine bdc fun i4 => ?_
          show G 135 120 [some (.inr (.inr x0)), some (.inl x1), some (.inl x2), some (.inl x3), some (.inl i2)] [.inl i4, .inr (.inr r3)] H = _
          refine Eq.trans (e1 hG PT_135 k135_120 _ _ _) ?_
          show G 135 121 [some (.inr (.inr x0)), some (.inl x1), some (.inl x2), some (.inl x3), some (.inl i2)] [.inl 1, .inl i4, .inr (.inr r3)] H = _
          refine Eq.trans (e1 hG PT_135 k135_121 _ _ _) ?_
          show G 135 122 [some (.inr (.inr x0)), some (.inl x1), some (.inl x2), some (.inl x3), some (.inl i2)] [.inl (i4 - 1), .inr (.inr r3)] H = _
          refine Eq.trans (e1 hG PT_135 k135_122 _ _ _) ?_
          show G 135 123 [some (.inr (.inr x0)), some (.inl x1), some (.inl x2), some (.inl x3), some (.inl i2)] [.inl 2, .inl (i4 - 1), .inr (.inr r3)] H = _
          refine Eq.trans (e1 hG PT_135 k135_123 _ _ _) ?_
          refine bdc fun H5 => ?_
          show G 135 124 [some (.inr (.inr x0)), some (.inl x1), some (.inl x2), some (.inl x3), some (.inl i2)] [] H5 = _
          refine Eq.trans (e1 hG PT_135 k135_124 _ _ _) ?_
          rfl
      · rfl
theorem b135_42 {G : AG} (hG : FIX G) (x0 : Nat) (x1 : Int32) (x2 : Int32) (x3 : Int32) (x4 : Int32) (H : Hp) : G 135 42 [some (.inr (.inr x0)), some (.inl x1), some (.inl x2), some (.inl x3), some (.inl x4)] [] H = ((hgR H x0 64).bind fun r1 => (hgI H x0 63).bind fun i2 => bif decide ((x4 : Int32) ≠ (3 : Int32)) then G 135 61 [some (.inr (.inr x0)), some (.inl x1), some (.inl x2), some (.inl x3), some (.inl x4)] [.inl 1, .inl i2, .inr (.inr r1)] H else G 135 61 [some (.inr (.inr x0)), some (.inl x1), some (.inl x2), some (.inl x3), some (.inl x4)] [.inl 0, .inl i2, .inr (.inr r1)] H) := by
  refine Eq.trans (e1 hG PT_135 k135_42 _ _ _) ?_
  show G 135 43 [some (.inr (.inr x0)), some (.inl x1), some (.inl x2), some (.inl x3), some (.inl x4)] [.inr (.inr x0)] H = _
  refine Eq.trans (e1 hG PT_135 k135_43 _ _ _) ?_
  refine bdc fun r1 => ?_
  show G 135 46 [some (.inr (.inr x0)), some (.inl x1), some (.inl x2), some (.inl x3), some (.inl x4)] [.inr (.inr r1)] H = _
  refine Eq.trans (e1 hG PT_135 k135_46 _ _ _) ?_
  show G 135 47 [some (.inr (.inr x0)), some (.inl x1), some (.inl x2), some (.inl x3), some (.inl x4)] [.inr (.inr x0), .inr (.inr r1)] H = _
  refine Eq.trans (e1 hG PT_135 k135_47 _ _ _) ?_
  refine bdc fun i2 => ?_
  show G 135 50 [some (.inr (.inr x0)), some (.inl x1), some (.inl x2), some (.inl x3), some (.inl x4)] [.inl i2, .inr (.inr r1)] H = _
  refine Eq.trans (e1 hG PT_135 k135_50 _ _ _) ?_
  show G 135 52 [some (.inr (.inr x0)), some (.inl x1), some (.inl x2), some (.inl x3), some (.inl x4)] [.inl x4, .inl i2, .inr (.inr r1)] H = _
  refine Eq.trans (e1 hG PT_135 k135_52 _ _ _) ?_
  show G 135 53 [some (.inr (.inr x0)), some (.inl x1), some (.inl x2), some (.inl x3), some (.inl x4)] [.inl 3, .inl x4, .inl i2, .inr (.inr r1)] H = _
  refine Eq.trans (e1 hG PT_135 k135_53 _ _ _) ?_
  refine bfc ?_ ?_
  · show G 135 60 [some (.inr (.inr x0)), some (.inl x1), some (.inl x2), some (.inl x3), some (.inl x4)] [.inl i2, .inr (.inr r1)] H = _
    refine Eq.trans (e1 hG PT_135 k135_60 _ _ _) ?_
    rfl
  · show G 135 56 [some (.inr (.inr x0)), some (.inl x1), some (.inl x2), some (.inl x3), some (.inl x4)] [.inl i2, .inr (.inr r1)] H = _
    refine Eq.trans (e1 hG PT_135 k135_56 _ _ _) ?_
    show G 135 57 [some (.inr (.inr x0)), some (.inl x1), some (.inl x2), some (.inl x3), some (.inl x4)] [.inl 0, .inl i2, .inr (.inr r1)] H = _
    refine Eq.trans (e1 hG PT_135 k135_57 _ _ _) ?_
    rfl
theorem b135_61 {G : AG} (hG : FIX G) (x0 : Nat) (x1 : Int32) (x2 : Int32) (x3 : Int32) (x4 : Int32) (s0 : Int32) (s1 : Int32) (s2 : Nat) (H : Hp) : G 135 61 [some (.inr (.inr x0)), some (.inl x1), some (.inl x2), some (.inl x3), some (.inl x4)] [.inl s0, .inl s1, .inr (.inr s2)] H = ((hSI H s2 s1 s0).bind fun H1 => (hgR H1 x0 65).bind fun r2 => (hgI H1 x0 63).bind fun i3 => (hSI H1 r2 i3 x3).bind fun H4 => (hgI H4 x0 63).bind fun i5 => (hpI H4 x0 63 ((i5 + 1))).bind fun H6 => (hgI H6 x0 66).bind fun i7 => bif decide ((x4 : Int32) ≠ (3 : Int32)) then G 135 98 [some (.inr (.inr x0)), some (.inl x1), some (.inl x2), some (.inl x3), some (.inl x4)] [.inl 0, .inl i7, .inr (.inr x0)] H6 else G 135 98 [some (.inr (.inr x0)), some (.inl x1), some (.inl x2), some (.inl x3), some (.inl x4)] [.inl 1, .inl i7, .inr (.inr x0)] H6) := by
  refine Eq.trans (e1 hG PT_135 k135_61 _ _ _) ?_
  refine bdc fun H1 => ?_
  show G 135 62 [some (.inr (.inr x0)), some (.inl x1), some (.inl x2), some (.inl x3), some (.inl x4)] [] H1 = _
  refine Eq.trans (e1 hG PT_135 k135_62 _ _ _) ?_
  show G 135 63 [some (.inr (.inr x0)), some (.inl x1), some (.inl x2), some (.inl x3), some (.inl x4)] [.inr (.inr x0)] H1 = _
  refine Eq.trans (e1 hG PT_135 k135_63 _ _ _) ?_
  refine bdc fun r2 => ?_
  show G 135 66 [some (.inr (.inr x0)), some (.inl x1), some (.inl x2), some (.inl x3), some (.inl x4)] [.inr (.inr r2)] H1 = _
  refine Eq.trans (e1 hG PT_135 k135_66 _ _ _) ?_
  show G 135 67 [some (.inr (.inr x0)), some (.inl x1), some (.inl x2), some (.inl x3), some (.inl x4)] [.inr (.inr x0), .inr (.inr r2)] H1 = _
  refine Eq.trans (e1 hG PT_135 k135_67 _ _ _) ?_
  refine bdc fun i3 => ?_
  show G 135 70 [some (.inr (.inr x0)), some (.inl x1), some (.inl x2), some (.inl x3), some (.inl x4)] [.inl i3, .inr (.inr r2)] H1 = _
  refine Eq.trans (e1 hG PT_135 k135_70 _ _ _) ?_
  show G 135 71 [some (.inr (.inr x0)), some (.inl x1), some (.inl x2), some (.inl x3), some (.inl x4)] [.inl x3, .inl i3, .inr (.inr r2)] H1 = _
  refine Eq.trans (e1 hG PT_135 k135_71 _ _ _) ?_
  refine bdc fun H4 => ?_
  show G 135 72 [some (.inr (.inr x0)), some (.inl x1), some (.inl x2), some (.inl x3), some (.inl x4)] [] H4 = _
  refine Eq.trans (e1 hG PT_135 k135_72 _ _ _) ?_
  show G 135 73 [some (.inr (.inr x0)), some (.inl x1), some (.inl x2), some (.inl x3), some (.inl x4)] [.inr (.inr x0)] H4 = _
  refine Eq.trans (e1 hG PT_135 k135_73 _ _ _) ?_
  show G 135 74 [some (.inr (.inr x0)), some (.inl x1), some (.inl x2), some (.inl x3), some (.inl x4)] [.inr (.inr x0), .inr (.inr x0)] H4 = _
  refine Eq.trans (e1 hG PT_135 k135_74 _ _ _) ?_
  refine bdc fun i5 => ?_
  show G 135 77 [some (.inr (.inr x0)), some (.inl x1), some (.inl x2), some (.inl x3), some (.inl x4)] [.inl i5, .inr (.inr x0)] H4 = _
  refine Eq.trans (e1 hG PT_135 k135_77 _ _ _) ?_
  show G 135 78 [some (.inr (.inr x0)), some (.inl x1), some (.inl x2), some (.inl x3), some (.inl x4)] [.inl 1, .inl i5, .inr (.inr x0)] H4 = _
  refine Eq.trans (e1 hG PT_135 k135_78 _ _ _) ?_
  show G 135 79 [some (.inr (.inr x0)), some (.inl x1), some (.inl x2), some (.inl x3), some (.inl x4)] [.inl (i5 + 1), .inr (.inr x0)] H4 = _
  refine Eq.trans (e1 hG PT_135 k135_79 _ _ _) ?_
  refine bdc fun H6 => ?_
  show G 135 82 [some (.inr (.inr x0)), some (.inl x1), some (.inl x2), some (.inl x3), some (.inl x4)] [] H6 = _
  refine Eq.trans (e1 hG PT_135 k135_82 _ _ _) ?_
  show G 135 83 [some (.inr (.inr x0)), some (.inl x1), some (.inl x2), some (.inl x3), some (.inl x4)] [.inr (.inr x0)] H6 = _
  refine Eq.trans (e1 hG PT_135 k135_83 _ _ _) ?_
  show G 135 84 [some (.inr (.inr x0)), some (.inl x1), some (.inl x2), some (.inl x3), some (.inl x4)] [.inr (.inr x0), .inr (.inr x0)] H6 = _
  refine Eq.trans (e1 hG PT_135 k135_84 _ _ _) ?_
  refine bdc fun i7 => ?_
  show G 135 87 [some (.inr (.inr x0)), some (.inl x1), some (.inl x2), some (.inl x3), some (.inl x4)] [.inl i7, .inr (.inr x0)] H6 = _
  refine Eq.trans (e1 hG PT_135 k135_87 _ _ _) ?_
  show G 135 89 [some (.inr (.inr x0)), some (.inl x1), some (.inl x2), some (.inl x3), some (.inl x4)] [.inl x4, .inl i7, .inr (.inr x0)] H6 = _
  refine Eq.trans (e1 hG PT_135 k135_89 _ _ _) ?_
  show G 135 90 [some (.inr (.inr x0)), some (.inl x1), some (.inl x2), some (.inl x3), some (.inl x4)] [.inl 3, .inl x4, .inl i7, .inr (.inr x0)] H6 = _
  refine Eq.trans (e1 hG PT_135 k135_90 _ _ _) ?_
  refine bfc ?_ ?_
  · show G 135 97 [some (.inr (.inr x0)), some (.inl x1), some (.inl x2), some (.inl x3), some (.inl x4)] [.inl i7, .inr (.inr x0)] H6 = _
    refine Eq.trans (e1 hG PT_135 k135_97 _ _ _) ?_
    rfl
  · show G 135 93 [some (.inr (.inr x0)), some (.inl x1), some (.inl x2), some (.inl x3), some (.inl x4)] [.inl i7, .inr (.inr x0)] H6 = _
    refine Eq.trans (e1 hG PT_135 k135_93 _ _ _) ?_
    show G 135 94 [some (.inr (.inr x0)), some (.inl x1), some (.inl x2), some (.inl x3), some (.inl x4)] [.inl 1, .inl i7, .inr (.inr x0)] H6 = _
    refine Eq.trans (e1 hG PT_135 k135_94 _ _ _) ?_
    rfl
theorem b135_98 {G : AG} (hG : FIX G) (x0 : Nat) (x1 : Int32) (x2 : Int32) (x3 : Int32) (x4 : Int32) (s0 : Int32) (s1 : Int32) (s2 : Nat) (H : Hp) : G 135 98 [some (.inr (.inr x0)), some (.inl x1), some (.inl x2), some (.inl x3), some (.inl x4)] [.inl s0, .inl s1, .inr (.inr s2)] H = ((hpI H s2 66 ((s1 + s0))).bind fun H1 => G 135 172 [some (.inr (.inr x0)), some (.inl x1), some (.inl x2), some (.inl x3), some (.inl x4)] [] H1) := by
  refine Eq.trans (e1 hG PT_135 k135_98 _ _ _) ?_
  show G 135 99 [some (.inr (.inr x0)), some (.inl x1), some (.inl x2), some (.inl x3), some (.inl x4)] [.inl (s1 + s0), .inr (.inr s2)] H = _
  refine Eq.trans (e1 hG PT_135 k135_99 _ _ _) ?_
  refine bdc fun H1 => ?_
  show G 135 102 [some (.inr (.inr x0)), some (.inl x1), some (.inl x2), some (.inl x3), some (.inl x4)] [] H1 = _
  refine Eq.trans (e1 hG PT_135 k135_102 _ _ _) ?_
  rfl
theorem b135_141 {G : AG} (hG : FIX G) (x0 : Nat) (x1 : Int32) (x2 : Int32) (x3 : Int32) (x4 : Int32) (H : Hp) : G 135 141 [some (.inr (.inr x0)), some (.inl x1), some (.inl x2), some (.inl x3), some (.inl x4)] [] H = ((hgI H x0 63).bind fun i1 => (hpI H x0 63 ((i1 - 1))).bind fun H2 => (hgI H2 x0 66).bind fun i3 => bif decide ((x4 : Int32) ≠ (6 : Int32)) then G 135 168 [some (.inr (.inr x0)), some (.inl x1), some (.inl x2), some (.inl x3), some (.inl x4)] [.inl 0, .inl i3, .inr (.inr x0)] H2 else G 135 168 [some (.inr (.inr x0)), some (.inl x1), some (.inl x2), some (.inl x3), some (.inl x4)] [.inl 1, .inl i3, .inr (.inr x0)] H2) := by
  refine Eq.trans (e1 hG PT_135 k135_141 _ _ _) ?_
  show G 135 142 [some (.inr (.inr x0)), some (.inl x1), some (.inl x2), some (.inl x3), some (.inl x4)] [.inr (.inr x0)] H = _
  refine Eq.trans (e1 hG PT_135 k135_142 _ _ _) ?_
  show G 135 143 [some (.inr (.inr x0)), some (.inl x1), some (.inl x2), some (.inl x3), some (.inl x4)] [.inr (.inr x0), .inr (.inr x0)] H = _
  refine Eq.trans (e1 hG PT_135 k135_143 _ _ _) ?_
  refine bdc fun i1 => ?_
  show G 135 146 [some (.inr (.inr x0)), some (.inl x1), some (.inl x2), some (.inl x3), some (.inl x4)] [.inl i1, .inr (.inr x0)] H = _
  refine Eq.trans (e1 hG PT_135 k135_146 _ _ _) ?_
  show G 135 147 [some (.inr (.inr x0)), some (.inl x1), some (.inl x2), some (.inl x3), some (.inl x4)] [.inl 1, .inl i1, .inr (.inr x0)] H = _
  refine Eq.trans (e1 hG PT_135 k135_147 _ _ _) ?_
  show G 135 148 [some (.inr (.inr x0)), some (.inl x1), some (.inl x2), some (.inl x3), some (.inl x4)] [.inl (i1 - 1), .inr (.inr x0)] H = _
  refine Eq.trans (e1 hG PT_135 k135_148 _ _ _) ?_
  refine bdc fun H2 => ?_
  show G 135 151 [some (.inr (.inr x0)), some (.inl x1), some (.inl x2), some (.inl x3), some (.inl x4)] [] H2 = _
  refine Eq.trans (e1 hG PT_135 k135_151 _ _ _) ?_
  show G 135 152 [some (.inr (.inr x0)), some (.inl x1), some (.inl x2), some (.inl x3), some (.inl x4)] [.inr (.inr x0)] H2 = _
  refine Eq.trans (e1 hG PT_135 k135_152 _ _ _) ?_
  show G 135 153 [some (.inr (.inr x0)), some (.inl x1), some (.inl x2), some (.inl x3), some (.inl x4)] [.inr (.inr x0), .inr (.inr x0)] H2 = _
  refine Eq.trans (e1 hG PT_135 k135_153 _ _ _) ?_
  refine bdc fun i3 => ?_
  show G 135 156 [some (.inr (.inr x0)), some (.inl x1), some (.inl x2), some (.inl x3), some (.inl x4)] [.inl i3, .inr (.inr x0)] H2 = _
  refine Eq.trans (e1 hG PT_135 k135_156 _ _ _) ?_
  show G 135 158 [some (.inr (.inr x0)), some (.inl x1), some (.inl x2), some (.inl x3), some (.inl x4)] [.inl x4, .inl i3, .inr (.inr x0)] H2 = _
  refine Eq.trans (e1 hG PT_135 k135_158 _ _ _) ?_
  show G 135 160 [some (.inr (.inr x0)), some (.inl x1), some (.inl x2), some (.inl x3), some (.inl x4)] [.inl 6, .inl x4, .inl i3, .inr (.inr x0)] H2 = _
  refine Eq.trans (e1 hG PT_135 k135_160 _ _ _) ?_
  refine bfc ?_ ?_
  · show G 135 167 [some (.inr (.inr x0)), some (.inl x1), some (.inl x2), some (.inl x3), some (.inl x4)] [.inl i3, .inr (.inr x0)] H2 = _
    refine Eq.trans (e1 hG PT_135 k135_167 _ _ _) ?_
    rfl
  · show G 135 163 [some (.inr (.inr x0)), some (.inl x1), some (.inl x2), some (.inl x3), some (.inl x4)] [.inl i3, .inr (.inr x0)] H2 = _
    refine Eq.trans (e1 hG PT_135 k135_163 _ _ _) ?_
    show G 135 164 [some (.inr (.inr x0)), some (.inl x1), some (.inl x2), some (.inl x3), some (.inl x4)] [.inl 1, .inl i3, .inr (.inr x0)] H2 = _
    refine Eq.trans (e1 hG PT_135 k135_164 _ _ _) ?_
    rfl
theorem b135_168 {G : AG} (hG : FIX G) (x0 : Nat) (x1 : Int32) (x2 : Int32) (x3 : Int32) (x4 : Int32) (s0 : Int32) (s1 : Int32) (s2 : Nat) (H : Hp) : G 135 168 [some (.inr (.inr x0)), some (.inl x1), some (.inl x2), some (.inl x3), some (.inl x4)] [.inl s0, .inl s1, .inr (.inr s2)] H = ((hpI H s2 66 ((s1 - s0))).bind fun H1 => G 135 172 [some (.inr (.inr x0)), some (.inl x1), some (.inl x2), some (.inl x3), some (.inl x4)] [] H1) := by
  refine Eq.trans (e1 hG PT_135 k135_168 _ _ _) ?_
  show G 135 169 [some (.inr (.inr x0)), some (.inl x1), some (.inl x2), some (.inl x3), some (.inl x4)] [.inl (s1 - s0), .inr (.inr s2)] H = _
  refine Eq.trans (e1 hG PT_135 k135_169 _ _ _) ?_
  refine bdc fun H1 => ?_
  rfl
theorem b135_172 {G : AG} (hG : FIX G) (x0 : Nat) (x1 : Int32) (x2 : Int32) (x3 : Int32) (x4 : Int32) (H : Hp) : G 135 172 [some (.inr (.inr x0)), some (.inl x1), some (.inl x2), some (.inl x3), some (.inl x4)] [] H = (G 135 12 [some (.inr (.inr x0)), some (.inl x1), some (.inl x2), some (.inl (x3 + 1)), some (.inl x4)] [] H) := by
  refine Eq.trans (e1 hG PT_135 k135_172 _ _ _) ?_
  show G 135 175 [some (.inr (.inr x0)), some (.inl x1), some (.inl x2), some (.inl (x3 + 1)), some (.inl x4)] [] H = _
  refine Eq.trans (e1 hG PT_135 k135_175 _ _ _) ?_
  rfl
-- StepsAheadModel.call(II)I
theorem PT_136 : PT 136 = pt136 := rfl
theorem k136_0 : lkp pt136 0 = iP 1 (fAld 0) := rfl
theorem k136_1 : lkp pt136 1 = iP 2 (fIld 1) := rfl
theorem k136_2 : lkp pt136 2 = iCK 5 12 132 2 2 1 := rfl
theorem k136_5 : lkp pt136 5 = iB 8 32 (b1 (fun x => decide (x = 0))) := rfl
theorem k136_8 : lkp pt136 8 = iP 9 (fIld 2) := rfl
theorem k136_9 : lkp pt136 9 = iP 10 fI2l := rfl
theorem k136_10 : lkp pt136 10 = iP 11 (fK (.inr (.inl 0))) := rfl
theorem k136_11 : lkp pt136 11 = iP 12 (fIld 1) := rfl
theorem k136_12 : lkp pt136 12 = iP 13 (fK (.inl 1)) := rfl
theorem k136_13 : lkp pt136 13 = iP 14 (f2I (fun x y => x - y)) := rfl
theorem k136_14 : lkp pt136 14 = iP 15 fI2l := rfl
theorem k136_15 : lkp pt136 15 = iC 18 130 6 3 1 := rfl
theorem k136_18 : lkp pt136 18 = iB 21 32 (b1 (fun x => decide (x = 0))) := rfl
theorem k136_21 : lkp pt136 21 = iP 22 (fAld 0) := rfl
theorem k136_22 : lkp pt136 22 = iP 23 (fIld 1) := rfl
theorem k136_23 : lkp pt136 23 = iP 24 (fK (.inl 4)) := rfl
theorem k136_24 : lkp pt136 24 = iP 25 (fK (.inl 0)) := rfl
theorem k136_25 : lkp pt136 25 = iP 26 (fIld 2) := rfl
theorem k136_26 : lkp pt136 26 = iCK 29 12 133 7 5 1 := rfl
theorem k136_29 : lkp pt136 29 = iP 34 fGo := rfl
theorem k136_32 : lkp pt136 32 = iP 34 (fK (.inl (-1000001))) := rfl
theorem k136_34 : lkp pt136 34 = iRet rI := rfl
theorem b136_0 {G : AG} (hG : FIX G) (x0 : Nat) (x1 : Int32) (x2 : Int32) (H : Hp) : G 136 0 [some (.inr (.inr x0)), some (.inl x1), some (.inl x2)] [] H = (bif Nat.beq (H.1 x0).1 12 then (G 132 0 [some (.inr (.inr x0)), some (.inl x1)] [] H).bind fun u1 => (asI u1.1).bind fun i2 => bif decide ((i2 : Int32) = 0) then G 136 32 [some (.inr (.inr x0)), some (.inl x1), some (.inl x2)] [] u1.2 else (G 130 0 [some (.inr (.inl x2.toInt64)), none, some (.inr (.inl 0)), none, some (.inr (.inl (((x1 - 1)).toInt64))), none] [] u1.2).bind fun u3 => (asI u3.1).bind fun i4 => bif decide ((i4 : Int32) = 0) then G 136 32 [some (.inr (.inr x0)), some (.inl x1), some (.inl x2)] [] u3.2 else bif Nat.beq (u3.2.1 x0).1 12 then (G 133 0 [some (.inr (.inr x0)), some (.inl x1), some (.inl 4), some (.inl 0), some (.inl x2), none, none] [] u3.2).bind fun u5 => (asI u5.1).bind fun i6 => G 136 34 [some (.inr (.inr x0)), some (.inl x1), some (.inl x2)] [.inl i6] u5.2 else none else none) := by
  refine Eq.trans (e1 hG PT_136 k136_0 _ _ _) ?_
  show G 136 1 [some (.inr (.inr x0)), some (.inl x1), some (.inl x2)] [.inr (.inr x0)] H = _
  refine Eq.trans (e1 hG PT_136 k136_1 _ _ _) ?_
  show G 136 2 [some (.inr (.inr x0)), some (.inl x1), some (.inl x2)] [.inl x1, .inr (.inr x0)] H = _
  refine Eq.trans (e1 hG PT_136 k136_2 _ _ _) ?_
  refine bfc ?_ ?_
  · refine bdc fun u1 => ?_
    refine bdc fun i2 => ?_
    show G 136 5 [some (.inr (.inr x0)), some (.inl x1), some (.inl x2)] [.inl i2] u1.2 = _
    refine Eq.trans (e1 hG PT_136 k136_5 _ _ _) ?_
    refine bfc ?_ ?_
    · rfl
    · show G 136 8 [some (.inr (.inr x0)), some (.inl x1), some (.inl x2)] [] u1.2 = _
      refine Eq.trans (e1 hG PT_136 k136_8 _ _ _) ?_
      show G 136 9 [some (.inr (.inr x0)), some (.inl x1), some (.inl x2)] [.inl x2] u1.2 = _
      refine Eq.trans (e1 hG PT_136 k136_9 _ _ _) ?_
      show G 136 10 [some (.inr (.inr x0)), some (.inl x1), some (.inl x2)] [.inr (.inl x2.toInt64)] u1.2 = _
      refine Eq.trans (e1 hG PT_136 k136_10 _ _ _) ?_
      show G 136 11 [some (.inr (.inr x0)), some (.inl x1), some (.inl x2)] [.inr (.inl 0), .inr (.inl x2.toInt64)] u1.2 = _
      refine Eq.trans (e1 hG PT_136 k136_11 _ _ _) ?_
      show G 136 12 [some (.inr (.inr x0)), some (.inl x1), some (.inl x2)] [.inl x1, .inr (.inl 0), .inr (.inl x2.toInt64)] u1.2 = _
      refine Eq.trans (e1 hG PT_136 k136_12 _ _ _) ?_
      show G 136 13 [some (.inr (.inr x0)), some (.inl x1), some (.inl x2)] [.inl 1, .inl x1, .inr (.inl 0), .inr (.inl x2.toInt64)] u1.2 = _
      refine Eq.trans (e1 hG PT_136 k136_13 _ _ _) ?_
      show G 136 14 [some (.inr (.inr x0)), some (.inl x1), some (.inl x2)] [.inl (x1 - 1), .inr (.inl 0), .inr (.inl x2.toInt64)] u1.2 = _
      refine Eq.trans (e1 hG PT_136 k136_14 _ _ _) ?_
      show G 136 15 [some (.inr (.inr x0)), some (.inl x1), some (.inl x2)] [.inr (.inl ((x1 - 1)).toInt64), .inr (.inl 0), .inr (.inl x2.toInt64)] u1.2 = _
      refine Eq.trans (e1 hG PT_136 k136_15 _ _ _) ?_
      refine bdc fun u3 => ?_
      refine bdc fun i4 => ?_
      show G 136 18 [some (.inr (.inr x0)), some (.inl x1), some (.inl x2)] [.inl i4] u3.2 = _
      refine Eq.trans (e1 hG PT_136 k136_18 _ _ _) ?_
      refine bfc ?_ ?_
      · rfl
      · show G 136 21 [some (.inr (.inr x0)), some (.inl x1), some (.inl x2)] [] u3.2 = _
        refine Eq.trans (e1 hG PT_136 k136_21 _ _ _) ?_
        show G 136 22 [some (.inr (.inr x0)), some (.inl x1), some (.inl x2)] [.inr (.inr x0)] u3.2 = _
        refine Eq.trans (e1 hG PT_136 k136_22 _ _ _) ?_
        show G 136 23 [some (.inr (.inr x0)), some (.inl x1), some (.inl x2)] [.inl x1, .inr (.inr x0)] u3.2 = _
        refine Eq.trans (e1 hG PT_136 k136_23 _ _ _) ?_
        show G 136 24 [some (.inr (.inr x0)), some (.inl x1), some (.inl x2)] [.inl 4, .inl x1, .inr (.inr x0)] u3.2 = _
        refine Eq.trans (e1 hG PT_136 k136_24 _ _ _) ?_
        show G 136 25 [some (.inr (.inr x0)), some (.inl x1), some (.inl x2)] [.inl 0, .inl 4, .inl x1, .inr (.inr x0)] u3.2 = _
        refine Eq.trans (e1 hG PT_136 k136_25 _ _ _) ?_
        show G 136 26 [some (.inr (.inr x0)), some (.inl x1), some (.inl x2)] [.inl x2, .inl 0, .inl 4, .inl x1, .inr (.inr x0)] u3.2 = _
        refine Eq.trans (e1 hG PT_136 k136_26 _ _ _) ?_
        refine bfc ?_ ?_
        · refine bdc fun u5 => ?_
          refine bdc fun i6 => ?_
          show G 136 29 [some (.inr (.inr x0)), some (.inl x1), some (.inl x2)] [.inl i6] u5.2 = _
          refine Eq.trans (e1 hG PT_136 k136_29 _ _ _) ?_
          rfl
        · rfl
  · rfl
theorem b136_32 {G : AG} (hG : FIX G) (x0 : Nat) (x1 : Int32) (x2 : Int32) (H : Hp) : G 136 32 [some (.inr (.inr x0)), some (.inl x1), some (.inl x2)] [] H = (G 136 34 [some (.inr (.inr x0)), some (.inl x1), some (.inl x2)] [.inl (-1000001)] H) := by
  refine Eq.trans (e1 hG PT_136 k136_32 _ _ _) ?_
  rfl
theorem b136_34 {G : AG} (hG : FIX G) (x0 : Nat) (x1 : Int32) (x2 : Int32) (s0 : Int32) (H : Hp) : G 136 34 [some (.inr (.inr x0)), some (.inl x1), some (.inl x2)] [.inl s0] H = (some (some (.inl s0), H)) := by
  exact e1 hG PT_136 k136_34 _ _ _
-- StepsAheadModel.either(I)I
theorem PT_137 : PT 137 = pt137 := rfl
theorem k137_0 : lkp pt137 0 = iP 1 (fAld 0) := rfl
theorem k137_1 : lkp pt137 1 = iP 2 (fIld 1) := rfl
theorem k137_2 : lkp pt137 2 = iCK 5 12 132 2 2 1 := rfl
theorem k137_5 : lkp pt137 5 = iB 8 20 (b1 (fun x => decide (x = 0))) := rfl
theorem k137_8 : lkp pt137 8 = iP 9 (fAld 0) := rfl
theorem k137_9 : lkp pt137 9 = iP 10 (fIld 1) := rfl
theorem k137_10 : lkp pt137 10 = iP 11 (fK (.inl 5)) := rfl
theorem k137_11 : lkp pt137 11 = iP 12 (fK (.inl 0)) := rfl
theorem k137_12 : lkp pt137 12 = iP 14 (fK (.inl (-1000000))) := rfl
theorem k137_14 : lkp pt137 14 = iCK 17 12 133 7 5 1 := rfl
theorem k137_17 : lkp pt137 17 = iP 22 fGo := rfl
theorem k137_20 : lkp pt137 20 = iP 22 (fK (.inl (-1000001))) := rfl
theorem k137_22 : lkp pt137 22 = iRet rI := rfl
theorem b137_0 {G : AG} (hG : FIX G) (x0 : Nat) (x1 : Int32) (H : Hp) : G 137 0 [some (.inr (.inr x0)), some (.inl x1)] [] H = (bif Nat.beq (H.1 x0).1 12 then (G 132 0 [some (.inr (.inr x0)), some (.inl x1)] [] H).bind fun u1 => (asI u1.1).bind fun i2 => bif decide ((i2 : Int32) = 0) then G 137 22 [some (.inr (.inr x0)), some (.inl x1)] [.inl (-1000001)] u1.2 else bif Nat.beq (u1.2.1 x0).1 12 then (G 133 0 [some (.inr (.inr x0)), some (.inl x1), some (.inl 5), some (.inl 0), some (.inl ((-1000000))), none, none] [] u1.2).bind fun u3 => (asI u3.1).bind fun i4 => G 137 22 [some (.inr (.inr x0)), some (.inl x1)] [.inl i4] u3.2 else none else none) := by
  refine Eq.trans (e1 hG PT_137 k137_0 _ _ _) ?_
  show G 137 1 [some (.inr (.inr x0)), some (.inl x1)] [.inr (.inr x0)] H = _
  refine Eq.trans (e1 hG PT_137 k137_1 _ _ _) ?_
  show G 137 2 [some (.inr (.inr x0)), some (.inl x1)] [.inl x1, .inr (.inr x0)] H = _
  refine Eq.trans (e1 hG PT_137 k137_2 _ _ _) ?_
  refine bfc ?_ ?_
  · refine bdc fun u1 => ?_
    refine bdc fun i2 => ?_
    show G 137 5 [some (.inr (.inr x0)), some (.inl x1)] [.inl i2] u1.2 = _
    refine Eq.trans (e1 hG PT_137 k137_5 _ _ _) ?_
    refine bfc ?_ ?_
    · show G 137 20 [some (.inr (.inr x0)), some (.inl x1)] [] u1.2 = _
      refine Eq.trans (e1 hG PT_137 k137_20 _ _ _) ?_
      rfl
    · show G 137 8 [some (.inr (.inr x0)), some (.inl x1)] [] u1.2 = _
      refine Eq.trans (e1 hG PT_137 k137_8 _ _ _) ?_
      show G 137 9 [some (.inr (.inr x0)), some (.inl x1)] [.inr (.inr x0)] u1.2 = _
      refine Eq.trans (e1 hG PT_137 k137_9 _ _ _) ?_
      show G 137 10 [some (.inr (.inr x0)), some (.inl x1)] [.inl x1, .inr (.inr x0)] u1.2 = _
      refine Eq.trans (e1 hG PT_137 k137_10 _ _ _) ?_
      show G 137 11 [some (.inr (.inr x0)), some (.inl x1)] [.inl 5, .inl x1, .inr (.inr x0)] u1.2 = _
      refine Eq.trans (e1 hG PT_137 k137_11 _ _ _) ?_
      show G 137 12 [some (.inr (.inr x0)), some (.inl x1)] [.inl 0, .inl 5, .inl x1, .inr (.inr x0)] u1.2 = _
      refine Eq.trans (e1 hG PT_137 k137_12 _ _ _) ?_
      show G 137 14 [some (.inr (.inr x0)), some (.inl x1)] [.inl (-1000000), .inl 0, .inl 5, .inl x1, .inr (.inr x0)] u1.2 = _
      refine Eq.trans (e1 hG PT_137 k137_14 _ _ _) ?_
      refine bfc ?_ ?_
      · refine bdc fun u3 => ?_
        refine bdc fun i4 => ?_
        show G 137 17 [some (.inr (.inr x0)), some (.inl x1)] [.inl i4] u3.2 = _
        refine Eq.trans (e1 hG PT_137 k137_17 _ _ _) ?_
        rfl
      · rfl
  · rfl
theorem b137_22 {G : AG} (hG : FIX G) (x0 : Nat) (x1 : Int32) (s0 : Int32) (H : Hp) : G 137 22 [some (.inr (.inr x0)), some (.inl x1)] [.inl s0] H = (some (some (.inl s0), H)) := by
  exact e1 hG PT_137 k137_22 _ _ _
-- StepsAheadModel.close(II)I
theorem PT_138 : PT 138 = pt138 := rfl
theorem k138_0 : lkp pt138 0 = iP 1 (fAld 0) := rfl
theorem k138_1 : lkp pt138 1 = iP 2 (fIld 1) := rfl
theorem k138_2 : lkp pt138 2 = iCK 5 12 132 2 2 1 := rfl
theorem k138_5 : lkp pt138 5 = iB 8 22 (b1 (fun x => decide (x = 0))) := rfl
theorem k138_8 : lkp pt138 8 = iP 9 (fIld 2) := rfl
theorem k138_9 : lkp pt138 9 = iP 10 fI2l := rfl
theorem k138_10 : lkp pt138 10 = iP 13 (fK (.inr (.inl 6))) := rfl
theorem k138_13 : lkp pt138 13 = iP 16 (fK (.inr (.inl 8))) := rfl
theorem k138_16 : lkp pt138 16 = iC 19 130 6 3 1 := rfl
theorem k138_19 : lkp pt138 19 = iB 22 25 (b1 (fun x => decide (x ≠ 0))) := rfl
theorem k138_22 : lkp pt138 22 = iP 24 (fK (.inl (-1000001))) := rfl
theorem k138_24 : lkp pt138 24 = iRet rI := rfl
theorem k138_25 : lkp pt138 25 = iP 26 (fAld 0) := rfl
theorem k138_26 : lkp pt138 26 = iP 27 (fIld 1) := rfl
theorem k138_27 : lkp pt138 27 = iP 28 (fAld 0) := rfl
theorem k138_28 : lkp pt138 28 = iRR 31 (gtR 51) := rfl
theorem k138_31 : lkp pt138 31 = iP 32 (fIld 1) := rfl
theorem k138_32 : lkp pt138 32 = iRI 33 qAI := rfl
theorem k138_33 : lkp pt138 33 = iCK 36 12 135 5 3 0 := rfl
theorem k138_36 : lkp pt138 36 = iP 37 (fIld 2) := rfl
theorem k138_37 : lkp pt138 37 = iP 39 (fK (.inl 6)) := rfl
theorem k138_39 : lkp pt138 39 = iB 42 46 (b2 (fun x y => decide (x ≠ y))) := rfl
theorem k138_42 : lkp pt138 42 = iP 43 (fK (.inl 0)) := rfl
theorem k138_43 : lkp pt138 43 = iP 57 fGo := rfl
theorem k138_46 : lkp pt138 46 = iP 47 (fIld 2) := rfl
theorem k138_47 : lkp pt138 47 = iP 49 (fK (.inl 7)) := rfl
theorem k138_49 : lkp pt138 49 = iB 52 56 (b2 (fun x y => decide (x ≠ y))) := rfl
theorem k138_52 : lkp pt138 52 = iP 53 (fK (.inl 1)) := rfl
theorem k138_53 : lkp pt138 53 = iP 57 fGo := rfl
theorem k138_56 : lkp pt138 56 = iP 57 (fK (.inl 2)) := rfl
theorem k138_57 : lkp pt138 57 = iP 58 (fIst 3) := rfl
theorem k138_58 : lkp pt138 58 = iP 59 (fAld 0) := rfl
theorem k138_59 : lkp pt138 59 = iRI 62 (gtI 63) := rfl
theorem k138_62 : lkp pt138 62 = iB 65 80 (b1 (fun x => decide (x = 0))) := rfl
theorem k138_65 : lkp pt138 65 = iP 66 (fAld 0) := rfl
theorem k138_66 : lkp pt138 66 = iRR 69 (gtR 64) := rfl
theorem k138_69 : lkp pt138 69 = iP 70 (fAld 0) := rfl
theorem k138_70 : lkp pt138 70 = iRI 73 (gtI 63) := rfl
theorem k138_73 : lkp pt138 73 = iP 74 (fK (.inl 1)) := rfl
theorem k138_74 : lkp pt138 74 = iP 75 (f2I (fun x y => x - y)) := rfl
theorem k138_75 : lkp pt138 75 = iRI 76 qAI := rfl
theorem k138_76 : lkp pt138 76 = iP 77 (fIld 3) := rfl
theorem k138_77 : lkp pt138 77 = iB 80 85 (b2 (fun x y => decide (x = y))) := rfl
theorem k138_80 : lkp pt138 80 = iP 82 (fK (.inl (-1000002))) := rfl
theorem k138_82 : lkp pt138 82 = iP 94 fGo := rfl
theorem k138_85 : lkp pt138 85 = iP 86 (fAld 0) := rfl
theorem k138_86 : lkp pt138 86 = iP 87 (fIld 1) := rfl
theorem k138_87 : lkp pt138 87 = iP 88 (fIld 2) := rfl
theorem k138_88 : lkp pt138 88 = iP 89 (fK (.inl 0)) := rfl
theorem k138_89 : lkp pt138 89 = iP 91 (fK (.inl (-1000000))) := rfl
theorem k138_91 : lkp pt138 91 = iCK 94 12 133 7 5 1 := rfl
theorem k138_94 : lkp pt138 94 = iRet rI := rfl
theorem b138_0 {G : AG} (hG : FIX G) (x0 : Nat) (x1 : Int32) (x2 : Int32) (H : Hp) : G 138 0 [some (.inr (.inr x0)), some (.inl x1), some (.inl x2), none] [] H = (bif Nat.beq (H.1 x0).1 12 then (G 132 0 [some (.inr (.inr x0)), some (.inl x1)] [] H).bind fun u1 => (asI u1.1).bind fun i2 => bif decide ((i2 : Int32) = 0) then G 138 22 [some (.inr (.inr x0)), some (.inl x1), some (.inl x2), none] [] u1.2 else (G 130 0 [some (.inr (.inl x2.toInt64)), none, some (.inr (.inl 6)), none, some (.inr (.inl 8)), none] [] u1.2).bind fun u3 => (asI u3.1).bind fun i4 => bif decide ((i4 : Int32) ≠ 0) then (hgR u3.2 x0 51).bind fun r5 => (hAI u3.2 r5 x1).bind fun i6 => bif Nat.beq (u3.2.1 x0).1 12 then (G 135 0 [some (.inr (.inr x0)), some (.inl x1), some (.inl i6), none, none] [] u3.2).bind fun u7 => (asV u7.1).bind fun _ => bif decide ((x2 : Int32) ≠ (6 : Int32)) then bif decide ((x2 : Int32) ≠ (7 : Int32)) then G 138 57 [some (.inr (.inr x0)), some (.inl x1), some (.inl x2), none] [.inl 2] u7.2 else G 138 57 [some (.inr (.inr x0)), some (.inl x1), some (.inl x2), none] [.inl 1] u7.2 else G 138 57 [some (.inr (.inr x0)), some (.inl x1), some (.inl x2), none] [.inl 0] u7.2 else none else G 138 22 [some (.inr (.inr x0)), some (.inl x1), some (.inl x2), none] [] u3.2 else none) := by
  refine Eq.trans (e1 hG PT_138 k138_0 _ _ _) ?_
  show G 138 1 [some (.inr (.inr x0)), some (.inl x1), some (.inl x2), none] [.inr (.inr x0)] H = _
  refine Eq.trans (e1 hG PT_138 k138_1 _ _ _) ?_
  show G 138 2 [some (.inr (.inr x0)), some (.inl x1), some (.inl x2), none] [.inl x1, .inr (.inr x0)] H = _
  refine Eq.trans (e1 hG PT_138 k138_2 _ _ _) ?_
  refine bfc ?_ ?_
  · refine bdc fun u1 => ?_
    refine bdc fun i2 => ?_
    show G 138 5 [some (.inr (.inr x0)), some (.inl x1), some (.inl x2), none] [.inl i2] u1.2 = _
    refine Eq.trans (e1 hG PT_138 k138_5 _ _ _) ?_
    refine bfc ?_ ?_
    · rfl
    · show G 138 8 [some (.inr (.inr x0)), some (.inl x1), some (.inl x2), none] [] u1.2 = _
      refine Eq.trans (e1 hG PT_138 k138_8 _ _ _) ?_
      show G 138 9 [some (.inr (.inr x0)), some (.inl x1), some (.inl x2), none] [.inl x2] u1.2 = _
      refine Eq.trans (e1 hG PT_138 k138_9 _ _ _) ?_
      show G 138 10 [some (.inr (.inr x0)), some (.inl x1), some (.inl x2), none] [.inr (.inl x2.toInt64)] u1.2 = _
      refine Eq.trans (e1 hG PT_138 k138_10 _ _ _) ?_
      show G 138 13 [some (.inr (.inr x0)), some (.inl x1), some (.inl x2), none] [.inr (.inl 6), .inr (.inl x2.toInt64)] u1.2 = _
      refine Eq.trans (e1 hG PT_138 k138_13 _ _ _) ?_
      show G 138 16 [some (.inr (.inr x0)), some (.inl x1), some (.inl x2), none] [.inr (.inl 8), .inr (.inl 6), .inr (.inl x2.toInt64)] u1.2 = _
      refine Eq.trans (e1 hG PT_138 k138_16 _ _ _) ?_
      refine bdc fun u3 => ?_
      refine bdc fun i4 => ?_
      show G 138 19 [some (.inr (.inr x0)), some (.inl x1), some (.inl x2), none] [.inl i4] u3.2 = _
      refine Eq.trans (e1 hG PT_138 k138_19 _ _ _) ?_
      refine bfc ?_ ?_
      · show G 138 25 [some (.inr (.inr x0)), some (.inl x1), some (.inl x2), none] [] u3.2 = _
        refine Eq.trans (e1 hG PT_138 k138_25 _ _ _) ?_
        show G 138 26 [some (.inr (.inr x0)), some (.inl x1), some (.inl x2), none] [.inr (.inr x0)] u3.2 = _
        refine Eq.trans (e1 hG PT_138 k138_26 _ _ _) ?_
        show G 138 27 [some (.inr (.inr x0)), some (.inl x1), some (.inl x2), none] [.inl x1, .inr (.inr x0)] u3.2 = _
        refine Eq.trans (e1 hG PT_138 k138_27 _ _ _) ?_
        show G 138 28 [some (.inr (.inr x0)), some (.inl x1), some (.inl x2), none] [.inr (.inr x0), .inl x1, .inr (.inr x0)] u3.2 = _
        refine Eq.trans (e1 hG PT_138 k138_28 _ _ _) ?_
        refine bdc fun r5 => ?_
        show G 138 31 [some (.inr (.inr x0)), some (.inl x1), some (.inl x2), none] [.inr (.inr r5), .inl x1, .inr (.inr x0)] u3.2 = _
        refine Eq.trans (e1 hG PT_138 k138_31 _ _ _) ?_
        show G 138 32 [some (.inr (.inr x0)), some (.inl x1), some (.inl x2), none] [.inl x1, .inr (.inr r5), .inl x1, .inr (.inr x0)] u3.2 = _
        refine Eq.trans (e1 hG PT_138 k138_32 _ _ _) ?_
        refine bdc fun i6 => ?_
        show G 138 33 [some (.inr (.inr x0)), some (.inl x1), some (.inl x2), none] [.inl i6, .inl x1, .inr (.inr x0)] u3.2 = _
        refine Eq.trans (e1 hG PT_138 k138_33 _ _ _) ?_
        refine bfc ?_ ?_
        · refine bdc fun u7 => ?_
          refine bdc fun _ => ?_
          show G 138 36 [some (.inr (.inr x0)), some (.inl x1), some (.inl x2), none] [] u7.2 = _
          refine Eq.trans (e1 hG PT_138 k138_36 _ _ _) ?_
          show G 138 37 [some (.inr (.inr x0)), some (.inl x1), some (.inl x2), none] [.inl x2] u7.2 = _
          refine Eq.trans (e1 hG PT_138 k138_37 _ _ _) ?_
          show G 138 39 [some (.inr (.inr x0)), some (.inl x1), some (.inl x2), none] [.inl 6, .inl x2] u7.2 = _
          refine Eq.trans (e1 hG PT_138 k138_39 _ _ _) ?_
          refine bfc ?_ ?_
          · show G 138 46 [some (.inr (.inr x0)), some (.inl x1), some (.inl x2), none] [] u7.2 = _
            refine Eq.trans (e1 hG PT_138 k138_46 _ _ _) ?_
            show G 138 47 [some (.inr (.inr x0)), some (.inl x1), some (.inl x2), none] [.inl x2] u7.2 = _
            refine Eq.trans (e1 hG PT_138 k138_47 _ _ _) ?_
            show G 138 49 [some (.inr (.inr x0)), some (.inl x1), some (.inl x2), none] [.inl 7, .inl x2] u7.2 = _
            refine Eq.trans (e1 hG PT_138 k138_49 _ _ _) ?_
            refine bfc ?_ ?_
            · show G 138 56 [some (.inr (.inr x0)), some (.inl x1), some (.inl x2), none] [] u7.2 = _
              refine Eq.trans (e1 hG PT_138 k138_56 _ _ _) ?_
              rfl
            · show G 138 52 [some (.inr (.inr x0)), some (.inl x1), some (.inl x2), none] [] u7.2 = _
              refine Eq.trans (e1 hG PT_138 k138_52 _ _ _) ?_
              show G 138 53 [some (.inr (.inr x0)), some (.inl x1), some (.inl x2), none] [.inl 1] u7.2 = _
              refine Eq.trans (e1 hG PT_138 k138_53 _ _ _) ?_
              rfl
          · show G 138 42 [some (.inr (.inr x0)), some (.inl x1), some (.inl x2), none] [] u7.2 = _
            refine Eq.trans (e1 hG PT_138 k138_42 _ _ _) ?_
            show G 138 43 [some (.inr (.inr x0)), some (.inl x1), some (.inl x2), none] [.inl 0] u7.2 = _
            refine Eq.trans (e1 hG PT_138 k138_43 _ _ _) ?_
            rfl
        · rfl
      · rfl
  · rfl
theorem b138_22 {G : AG} (hG : FIX G) (x0 : Nat) (x1 : Int32) (x2 : Int32) (H : Hp) : G 138 22 [some (.inr (.inr x0)), some (.inl x1), some (.inl x2), none] [] H = (some (some (.inl ((-1000001))), H)) := by
  refine Eq.trans (e1 hG PT_138 k138_22 _ _ _) ?_
  show G 138 24 [some (.inr (.inr x0)), some (.inl x1), some (.inl x2), none] [.inl (-1000001)] H = _
  exact e1 hG PT_138 k138_24 _ _ _
theorem b138_57 {G : AG} (hG : FIX G) (x0 : Nat) (x1 : Int32) (x2 : Int32) (s0 : Int32) (H : Hp) : G 138 57 [some (.inr (.inr x0)), some (.inl x1), some (.inl x2), none] [.inl s0] H = ((hgI H x0 63).bind fun i1 => bif decide ((i1 : Int32) = 0) then G 138 80 [some (.inr (.inr x0)), some (.inl x1), some (.inl x2), some (.inl s0)] [] H else (hgR H x0 64).bind fun r2 => (hgI H x0 63).bind fun i3 => (hAI H r2 ((i3 - 1))).bind fun i4 => bif decide ((i4 : Int32) = (s0 : Int32)) then bif Nat.beq (H.1 x0).1 12 then (G 133 0 [some (.inr (.inr x0)), some (.inl x1), some (.inl x2), some (.inl 0), some (.inl ((-1000000))), none, none] [] H).bind fun u5 => (asI u5.1).bind fun i6 => G 138 94 [some (.inr (.inr x0)), some (.inl x1), some (.inl x2), some (.inl s0)] [.inl i6] u5.2 else none else G 138 80 [some (.inr (.inr x0)), some (.inl x1), some (.inl x2), some (.inl s0)] [] H) := by
  refine Eq.trans (e1 hG PT_138 k138_57 _ _ _) ?_
  show G 138 58 [some (.inr (.inr x0)), some (.inl x1), some (.inl x2), some (.inl s0)] [] H = _
  refine Eq.trans (e1 hG PT_138 k138_58 _ _ _) ?_
  show G 138 59 [some (.inr (.inr x0)), some (.inl x1), some (.inl x2), some (.inl s0)] [.inr (.inr x0)] H = _
  refine Eq.trans (e1 hG PT_138 k138_59 _ _ _) ?_
  refine bdc fun i1 => ?_
  show G 138 62 [some (.inr (.inr x0)), some (.inl x1), some (.inl x2), some (.inl s0)] [.inl i1] H = _
  refine Eq.trans (e1 hG PT_138 k138_62 _ _ _) ?_
  refine bfc ?_ ?_
  · rfl
  · show G 138 65 [some (.inr (.inr x0)), some (.inl x1), some (.inl x2), some (.inl s0)] [] H = _
    refine Eq.trans (e1 hG PT_138 k138_65 _ _ _) ?_
    show G 138 66 [some (.inr (.inr x0)), some (.inl x1), some (.inl x2), some (.inl s0)] [.inr (.inr x0)] H = _
    refine Eq.trans (e1 hG PT_138 k138_66 _ _ _) ?_
    refine bdc fun r2 => ?_
    show G 138 69 [some (.inr (.inr x0)), some (.inl x1), some (.inl x2), some (.inl s0)] [.inr (.inr r2)] H = _
    refine Eq.trans (e1 hG PT_138 k138_69 _ _ _) ?_
    show G 138 70 [some (.inr (.inr x0)), some (.inl x1), some (.inl x2), some (.inl s0)] [.inr (.inr x0), .inr (.inr r2)] H = _
    refine Eq.trans (e1 hG PT_138 k138_70 _ _ _) ?_
    refine bdc fun i3 => ?_
    show G 138 73 [some (.inr (.inr x0)), some (.inl x1), some (.inl x2), some (.inl s0)] [.inl i3, .inr (.inr r2)] H = _
    refine Eq.trans (e1 hG PT_138 k138_73 _ _ _) ?_
    show G 138 74 [some (.inr (.inr x0)), some (.inl x1), some (.inl x2), some (.inl s0)] [.inl 1, .inl i3, .inr (.inr r2)] H = _
    refine Eq.trans (e1 hG PT_138 k138_74 _ _ _) ?_
    show G 138 75 [some (.inr (.inr x0)), some (.inl x1), some (.inl x2), some (.inl s0)] [.inl (i3 - 1), .inr (.inr r2)] H = _
    refine Eq.trans (e1 hG PT_138 k138_75 _ _ _) ?_
    refine bdc fun i4 => ?_
    show G 138 76 [some (.inr (.inr x0)), some (.inl x1), some (.inl x2), some (.inl s0)] [.inl i4] H = _
    refine Eq.trans (e1 hG PT_138 k138_76 _ _ _) ?_
    show G 138 77 [some (.inr (.inr x0)), some (.inl x1), some (.inl x2), some (.inl s0)] [.inl s0, .inl i4] H = _
    refine Eq.trans (e1 hG PT_138 k138_77 _ _ _) ?_
    refine bfc ?_ ?_
    · show G 138 85 [some (.inr (.inr x0)), some (.inl x1), some (.inl x2), some (.inl s0)] [] H = _
      refine Eq.trans (e1 hG PT_138 k138_85 _ _ _) ?_
      show G 138 86 [some (.inr (.inr x0)), some (.inl x1), some (.inl x2), some (.inl s0)] [.inr (.inr x0)] H = _
      refine Eq.trans (e1 hG PT_138 k138_86 _ _ _) ?_
      show G 138 87 [some (.inr (.inr x0)), some (.inl x1), some (.inl x2), some (.inl s0)] [.inl x1, .inr (.inr x0)] H = _
      refine Eq.trans (e1 hG PT_138 k138_87 _ _ _) ?_
      show G 138 88 [some (.inr (.inr x0)), some (.inl x1), some (.inl x2), some (.inl s0)] [.inl x2, .inl x1, .inr (.inr x0)] H = _
      refine Eq.trans (e1 hG PT_138 k138_88 _ _ _) ?_
      show G 138 89 [some (.inr (.inr x0)), some (.inl x1), some (.inl x2), some (.inl s0)] [.inl 0, .inl x2, .inl x1, .inr (.inr x0)] H = _
      refine Eq.trans (e1 hG PT_138 k138_89 _ _ _) ?_
      show G 138 91 [some (.inr (.inr x0)), some (.inl x1), some (.inl x2), some (.inl s0)] [.inl (-1000000), .inl 0, .inl x2, .inl x1, .inr (.inr x0)] H = _
      refine Eq.trans (e1 hG PT_138 k138_91 _ _ _) ?_
      refine bfc ?_ ?_
      · refine bdc fun u5 => ?_
        refine bdc fun i6 => ?_
        rfl
      · rfl
    · rfl
theorem b138_80 {G : AG} (hG : FIX G) (x0 : Nat) (x1 : Int32) (x2 : Int32) (x3 : Int32) (H : Hp) : G 138 80 [some (.inr (.inr x0)), some (.inl x1), some (.inl x2), some (.inl x3)] [] H = (G 138 94 [some (.inr (.inr x0)), some (.inl x1), some (.inl x2), some (.inl x3)] [.inl (-1000002)] H) := by
  refine Eq.trans (e1 hG PT_138 k138_80 _ _ _) ?_
  show G 138 82 [some (.inr (.inr x0)), some (.inl x1), some (.inl x2), some (.inl x3)] [.inl (-1000002)] H = _
  refine Eq.trans (e1 hG PT_138 k138_82 _ _ _) ?_
  rfl
theorem b138_94 {G : AG} (hG : FIX G) (x0 : Nat) (x1 : Int32) (x2 : Int32) (x3 : Int32) (s0 : Int32) (H : Hp) : G 138 94 [some (.inr (.inr x0)), some (.inl x1), some (.inl x2), some (.inl x3)] [.inl s0] H = (some (some (.inl s0), H)) := by
  exact e1 hG PT_138 k138_94 _ _ _
-- StepsAheadModel.back(I)I
theorem PT_139 : PT 139 = pt139 := rfl
theorem k139_0 : lkp pt139 0 = iP 1 (fAld 0) := rfl
theorem k139_1 : lkp pt139 1 = iP 2 (fIld 1) := rfl
theorem k139_2 : lkp pt139 2 = iCK 5 12 132 2 2 1 := rfl
theorem k139_5 : lkp pt139 5 = iB 8 11 (b1 (fun x => decide (x ≠ 0))) := rfl
theorem k139_8 : lkp pt139 8 = iP 10 (fK (.inl (-1000001))) := rfl
theorem k139_10 : lkp pt139 10 = iRet rI := rfl
theorem k139_11 : lkp pt139 11 = iP 12 (fAld 0) := rfl
theorem k139_12 : lkp pt139 12 = iRR 15 (gtR 51) := rfl
theorem k139_15 : lkp pt139 15 = iP 16 (fIld 1) := rfl
theorem k139_16 : lkp pt139 16 = iRI 17 qAI := rfl
theorem k139_17 : lkp pt139 17 = iB 20 23 (b1 (fun x => decide (x ≠ 0))) := rfl
theorem k139_20 : lkp pt139 20 = iP 22 (fK (.inl (-1000002))) := rfl
theorem k139_22 : lkp pt139 22 = iRet rI := rfl
theorem k139_23 : lkp pt139 23 = iP 24 (fAld 0) := rfl
theorem k139_24 : lkp pt139 24 = iRR 27 (gtR 51) := rfl
theorem k139_27 : lkp pt139 27 = iP 28 (fIld 1) := rfl
theorem k139_28 : lkp pt139 28 = iP 29 fDup2 := rfl
theorem k139_29 : lkp pt139 29 = iRI 30 qAI := rfl
theorem k139_30 : lkp pt139 30 = iP 31 (fK (.inl 1)) := rfl
theorem k139_31 : lkp pt139 31 = iP 32 (f2I (fun x y => x - y)) := rfl
theorem k139_32 : lkp pt139 32 = iW 33 wAI := rfl
theorem k139_33 : lkp pt139 33 = iP 34 (fAld 0) := rfl
theorem k139_34 : lkp pt139 34 = iP 35 (fK (.inl 0)) := rfl
theorem k139_35 : lkp pt139 35 = iW 38 (ptZ 60) := rfl
theorem k139_38 : lkp pt139 38 = iP 39 (fAld 0) := rfl
theorem k139_39 : lkp pt139 39 = iRR 42 (gtR 51) := rfl
theorem k139_42 : lkp pt139 42 = iP 43 (fIld 1) := rfl
theorem k139_43 : lkp pt139 43 = iRI 44 qAI := rfl
theorem k139_44 : lkp pt139 44 = iRet rI := rfl
theorem b139_0 {G : AG} (hG : FIX G) (x0 : Nat) (x1 : Int32) (H : Hp) : G 139 0 [some (.inr (.inr x0)), some (.inl x1)] [] H = (bif Nat.beq (H.1 x0).1 12 then (G 132 0 [some (.inr (.inr x0)), some (.inl x1)] [] H).bind fun u1 => (asI u1.1).bind fun i2 => bif decide ((i2 : Int32) ≠ 0) then (hgR u1.2 x0 51).bind fun r3 => (hAI u1.2 r3 x1).bind fun i4 => bif decide ((i4 : Int32) ≠ 0) then (hgR u1.2 x0 51).bind fun r5 => (hAI u1.2 r5 x1).bind fun i6 => (hSI u1.2 r5 x1 ((i6 - 1))).bind fun H7 => (hpZ H7 x0 60 0).bind fun H8 => (hgR H8 x0 51).bind fun r9 => (hAI H8 r9 x1).bind fun i10 => some (some (.inl i10), H8) else some (some (.inl ((-1000002))), u1.2) else some (some (.inl ((-1000001))), u1.2) else none) := by
  refine Eq.trans (e1 hG PT_139 k139_0 _ _ _) ?_
  show G 139 1 [some (.inr (.inr x0)), some (.inl x1)] [.inr (.inr x0)] H = _
  refine Eq.trans (e1 hG PT_139 k139_1 _ _ _) ?_
  show G 139 2 [some (.inr (.inr x0)), some (.inl x1)] [.inl x1, .inr (.inr x0)] H = _
  refine Eq.trans (e1 hG PT_139 k139_2 _ _ _) ?_
  refine bfc ?_ ?_
  · refine bdc fun u1 => ?_
    refine bdc fun i2 => ?_
    show G 139 5 [some (.inr (.inr x0)), some (.inl x1)] [.inl i2] u1.2 = _
    refine Eq.trans (e1 hG PT_139 k139_5 _ _ _) ?_
    refine bfc ?_ ?_
    · show G 139 11 [some (.inr (.inr x0)), some (.inl x1)] [] u1.2 = _
      refine Eq.trans (e1 hG PT_139 k139_11 _ _ _) ?_
      show G 139 12 [some (.inr (.inr x0)), some (.inl x1)] [.inr (.inr x0)] u1.2 = _
      refine Eq.trans (e1 hG PT_139 k139_12 _ _ _) ?_
      refine bdc fun r3 => ?_
      show G 139 15 [some (.inr (.inr x0)), some (.inl x1)] [.inr (.inr r3)] u1.2 = _
      refine Eq.trans (e1 hG PT_139 k139_15 _ _ _) ?_
      show G 139 16 [some (.inr (.inr x0)), some (.inl x1)] [.inl x1, .inr (.inr r3)] u1.2 = _
      refine Eq.trans (e1 hG PT_139 k139_16 _ _ _) ?_
      refine bdc fun i4 => ?_
      show G 139 17 [some (.inr (.inr x0)), some (.inl x1)] [.inl i4] u1.2 = _
      refine Eq.trans (e1 hG PT_139 k139_17 _ _ _) ?_
      refine bfc ?_ ?_
      · show G 139 23 [some (.inr (.inr x0)), some (.inl x1)] [] u1.2 = _
        refine Eq.trans (e1 hG PT_139 k139_23 _ _ _) ?_
        show G 139 24 [some (.inr (.inr x0)), some (.inl x1)] [.inr (.inr x0)] u1.2 = _
        refine Eq.trans (e1 hG PT_139 k139_24 _ _ _) ?_
        refine bdc fun r5 => ?_
        show G 139 27 [some (.inr (.inr x0)), some (.inl x1)] [.inr (.inr r5)] u1.2 = _
        refine Eq.trans (e1 hG PT_139 k139_27 _ _ _) ?_
        show G 139 28 [some (.inr (.inr x0)), some (.inl x1)] [.inl x1, .inr (.inr r5)] u1.2 = _
        refine Eq.trans (e1 hG PT_139 k139_28 _ _ _) ?_
        show G 139 29 [some (.inr (.inr x0)), some (.inl x1)] [.inl x1, .inr (.inr r5), .inl x1, .inr (.inr r5)] u1.2 = _
        refine Eq.trans (e1 hG PT_139 k139_29 _ _ _) ?_
        refine bdc fun i6 => ?_
        show G 139 30 [some (.inr (.inr x0)), some (.inl x1)] [.inl i6, .inl x1, .inr (.inr r5)] u1.2 = _
        refine Eq.trans (e1 hG PT_139 k139_30 _ _ _) ?_
        show G 139 31 [some (.inr (.inr x0)), some (.inl x1)] [.inl 1, .inl i6, .inl x1, .inr (.inr r5)] u1.2 = _
        refine Eq.trans (e1 hG PT_139 k139_31 _ _ _) ?_
        show G 139 32 [some (.inr (.inr x0)), some (.inl x1)] [.inl (i6 - 1), .inl x1, .inr (.inr r5)] u1.2 = _
        refine Eq.trans (e1 hG PT_139 k139_32 _ _ _) ?_
        refine bdc fun H7 => ?_
        show G 139 33 [some (.inr (.inr x0)), some (.inl x1)] [] H7 = _
        refine Eq.trans (e1 hG PT_139 k139_33 _ _ _) ?_
        show G 139 34 [some (.inr (.inr x0)), some (.inl x1)] [.inr (.inr x0)] H7 = _
        refine Eq.trans (e1 hG PT_139 k139_34 _ _ _) ?_
        show G 139 35 [some (.inr (.inr x0)), some (.inl x1)] [.inl 0, .inr (.inr x0)] H7 = _
        refine Eq.trans (e1 hG PT_139 k139_35 _ _ _) ?_
        refine bdc fun H8 => ?_
        show G 139 38 [some (.inr (.inr x0)), some (.inl x1)] [] H8 = _
        refine Eq.trans (e1 hG PT_139 k139_38 _ _ _) ?_
        show G 139 39 [some (.inr (.inr x0)), some (.inl x1)] [.inr (.inr x0)] H8 = _
        refine Eq.trans (e1 hG PT_139 k139_39 _ _ _) ?_
        refine bdc fun r9 => ?_
        show G 139 42 [some (.inr (.inr x0)), some (.inl x1)] [.inr (.inr r9)] H8 = _
        refine Eq.trans (e1 hG PT_139 k139_42 _ _ _) ?_
        show G 139 43 [some (.inr (.inr x0)), some (.inl x1)] [.inl x1, .inr (.inr r9)] H8 = _
        refine Eq.trans (e1 hG PT_139 k139_43 _ _ _) ?_
        refine bdc fun i10 => ?_
        show G 139 44 [some (.inr (.inr x0)), some (.inl x1)] [.inl i10] H8 = _
        exact e1 hG PT_139 k139_44 _ _ _
      · show G 139 20 [some (.inr (.inr x0)), some (.inl x1)] [] u1.2 = _
        refine Eq.trans (e1 hG PT_139 k139_20 _ _ _) ?_
        show G 139 22 [some (.inr (.inr x0)), some (.inl x1)] [.inl (-1000002)] u1.2 = _
        exact e1 hG PT_139 k139_22 _ _ _
    · show G 139 8 [some (.inr (.inr x0)), some (.inl x1)] [] u1.2 = _
      refine Eq.trans (e1 hG PT_139 k139_8 _ _ _) ?_
      show G 139 10 [some (.inr (.inr x0)), some (.inl x1)] [.inl (-1000001)] u1.2 = _
      exact e1 hG PT_139 k139_10 _ _ _
  · rfl
-- StepsAheadModel.kind(II)I
theorem PT_140 : PT 140 = pt140 := rfl
theorem k140_0 : lkp pt140 0 = iP 1 (fAld 0) := rfl
theorem k140_1 : lkp pt140 1 = iP 2 (fIld 1) := rfl
theorem k140_2 : lkp pt140 2 = iP 3 (fIld 2) := rfl
theorem k140_3 : lkp pt140 3 = iCK 6 12 141 3 3 1 := rfl
theorem k140_6 : lkp pt140 6 = iB 9 23 (b1 (fun x => decide (x = 0))) := rfl
theorem k140_9 : lkp pt140 9 = iP 10 (fAld 0) := rfl
theorem k140_10 : lkp pt140 10 = iRR 13 (gtR 52) := rfl
theorem k140_13 : lkp pt140 13 = iP 15 (fK (.inl 24)) := rfl
theorem k140_15 : lkp pt140 15 = iP 16 (fIld 1) := rfl
theorem k140_16 : lkp pt140 16 = iP 17 (f2I (fun x y => x * y)) := rfl
theorem k140_17 : lkp pt140 17 = iP 18 (fIld 2) := rfl
theorem k140_18 : lkp pt140 18 = iP 19 (f2I (fun x y => x + y)) := rfl
theorem k140_19 : lkp pt140 19 = iRI 20 qAI := rfl
theorem k140_20 : lkp pt140 20 = iP 25 fGo := rfl
theorem k140_23 : lkp pt140 23 = iP 25 (fK (.inl (-1000001))) := rfl
theorem k140_25 : lkp pt140 25 = iRet rI := rfl
theorem b140_0 {G : AG} (hG : FIX G) (x0 : Nat) (x1 : Int32) (x2 : Int32) (H : Hp) : G 140 0 [some (.inr (.inr x0)), some (.inl x1), some (.inl x2)] [] H = (bif Nat.beq (H.1 x0).1 12 then (G 141 0 [some (.inr (.inr x0)), some (.inl x1), some (.inl x2)] [] H).bind fun u1 => (asI u1.1).bind fun i2 => bif decide ((i2 : Int32) = 0) then G 140 25 [some (.inr (.inr x0)), some (.inl x1), some (.inl x2)] [.inl (-1000001)] u1.2 else (hgR u1.2 x0 52).bind fun r3 => (hAI u1.2 r3 (((24 * x1) + x2))).bind fun i4 => G 140 25 [some (.inr (.inr x0)), some (.inl x1), some (.inl x2)] [.inl i4] u1.2 else none) := by
  refine Eq.trans (e1 hG PT_140 k140_0 _ _ _) ?_
  show G 140 1 [some (.inr (.inr x0)), some (.inl x1), some (.inl x2)] [.inr (.inr x0)] H = _
  refine Eq.trans (e1 hG PT_140 k140_1 _ _ _) ?_
  show G 140 2 [some (.inr (.inr x0)), some (.inl x1), some (.inl x2)] [.inl x1, .inr (.inr x0)] H = _
  refine Eq.trans (e1 hG PT_140 k140_2 _ _ _) ?_
  show G 140 3 [some (.inr (.inr x0)), some (.inl x1), some (.inl x2)] [.inl x2, .inl x1, .inr (.inr x0)] H = _
  refine Eq.trans (e1 hG PT_140 k140_3 _ _ _) ?_
  refine bfc ?_ ?_
  · refine bdc fun u1 => ?_
    refine bdc fun i2 => ?_
    show G 140 6 [some (.inr (.inr x0)), some (.inl x1), some (.inl x2)] [.inl i2] u1.2 = _
    refine Eq.trans (e1 hG PT_140 k140_6 _ _ _) ?_
    refine bfc ?_ ?_
    · show G 140 23 [some (.inr (.inr x0)), some (.inl x1), some (.inl x2)] [] u1.2 = _
      refine Eq.trans (e1 hG PT_140 k140_23 _ _ _) ?_
      rfl
    · show G 140 9 [some (.inr (.inr x0)), some (.inl x1), some (.inl x2)] [] u1.2 = _
      refine Eq.trans (e1 hG PT_140 k140_9 _ _ _) ?_
      show G 140 10 [some (.inr (.inr x0)), some (.inl x1), some (.inl x2)] [.inr (.inr x0)] u1.2 = _
      refine Eq.trans (e1 hG PT_140 k140_10 _ _ _) ?_
      refine bdc fun r3 => ?_
      show G 140 13 [some (.inr (.inr x0)), some (.inl x1), some (.inl x2)] [.inr (.inr r3)] u1.2 = _
      refine Eq.trans (e1 hG PT_140 k140_13 _ _ _) ?_
      show G 140 15 [some (.inr (.inr x0)), some (.inl x1), some (.inl x2)] [.inl 24, .inr (.inr r3)] u1.2 = _
      refine Eq.trans (e1 hG PT_140 k140_15 _ _ _) ?_
      show G 140 16 [some (.inr (.inr x0)), some (.inl x1), some (.inl x2)] [.inl x1, .inl 24, .inr (.inr r3)] u1.2 = _
      refine Eq.trans (e1 hG PT_140 k140_16 _ _ _) ?_
      show G 140 17 [some (.inr (.inr x0)), some (.inl x1), some (.inl x2)] [.inl (24 * x1), .inr (.inr r3)] u1.2 = _
      refine Eq.trans (e1 hG PT_140 k140_17 _ _ _) ?_
      show G 140 18 [some (.inr (.inr x0)), some (.inl x1), some (.inl x2)] [.inl x2, .inl (24 * x1), .inr (.inr r3)] u1.2 = _
      refine Eq.trans (e1 hG PT_140 k140_18 _ _ _) ?_
      show G 140 19 [some (.inr (.inr x0)), some (.inl x1), some (.inl x2)] [.inl ((24 * x1) + x2), .inr (.inr r3)] u1.2 = _
      refine Eq.trans (e1 hG PT_140 k140_19 _ _ _) ?_
      refine bdc fun i4 => ?_
      show G 140 20 [some (.inr (.inr x0)), some (.inl x1), some (.inl x2)] [.inl i4] u1.2 = _
      refine Eq.trans (e1 hG PT_140 k140_20 _ _ _) ?_
      rfl
  · rfl
theorem b140_25 {G : AG} (hG : FIX G) (x0 : Nat) (x1 : Int32) (x2 : Int32) (s0 : Int32) (H : Hp) : G 140 25 [some (.inr (.inr x0)), some (.inl x1), some (.inl x2)] [.inl s0] H = (some (some (.inl s0), H)) := by
  exact e1 hG PT_140 k140_25 _ _ _
-- StepsAheadModel.isOp(II)Z
theorem PT_141 : PT 141 = pt141 := rfl
theorem k141_0 : lkp pt141 0 = iP 1 (fAld 0) := rfl
theorem k141_1 : lkp pt141 1 = iP 2 (fIld 1) := rfl
theorem k141_2 : lkp pt141 2 = iCK 5 12 132 2 2 1 := rfl
theorem k141_5 : lkp pt141 5 = iB 8 30 (b1 (fun x => decide (x = 0))) := rfl
theorem k141_8 : lkp pt141 8 = iP 9 (fIld 2) := rfl
theorem k141_9 : lkp pt141 9 = iP 10 fI2l := rfl
theorem k141_10 : lkp pt141 10 = iP 11 (fK (.inr (.inl 0))) := rfl
theorem k141_11 : lkp pt141 11 = iP 12 (fAld 0) := rfl
theorem k141_12 : lkp pt141 12 = iRR 15 (gtR 51) := rfl
theorem k141_15 : lkp pt141 15 = iP 16 (fIld 1) := rfl
theorem k141_16 : lkp pt141 16 = iRI 17 qAI := rfl
theorem k141_17 : lkp pt141 17 = iP 18 (fK (.inl 1)) := rfl
theorem k141_18 : lkp pt141 18 = iP 19 (f2I (fun x y => x - y)) := rfl
theorem k141_19 : lkp pt141 19 = iP 20 fI2l := rfl
theorem k141_20 : lkp pt141 20 = iC 23 130 6 3 1 := rfl
theorem k141_23 : lkp pt141 23 = iB 26 30 (b1 (fun x => decide (x = 0))) := rfl
theorem k141_26 : lkp pt141 26 = iP 27 (fK (.inl 1)) := rfl
theorem k141_27 : lkp pt141 27 = iP 31 fGo := rfl
theorem k141_30 : lkp pt141 30 = iP 31 (fK (.inl 0)) := rfl
theorem k141_31 : lkp pt141 31 = iRet rZ := rfl
theorem b141_0 {G : AG} (hG : FIX G) (x0 : Nat) (x1 : Int32) (x2 : Int32) (H : Hp) : G 141 0 [some (.inr (.inr x0)), some (.inl x1), some (.inl x2)] [] H = (bif Nat.beq (H.1 x0).1 12 then (G 132 0 [some (.inr (.inr x0)), some (.inl x1)] [] H).bind fun u1 => (asI u1.1).bind fun i2 => bif decide ((i2 : Int32) = 0) then G 141 30 [some (.inr (.inr x0)), some (.inl x1), some (.inl x2)] [] u1.2 else (hgR u1.2 x0 51).bind fun r3 => (hAI u1.2 r3 x1).bind fun i4 => (G 130 0 [some (.inr (.inl x2.toInt64)), none, some (.inr (.inl 0)), none, some (.inr (.inl (((i4 - 1)).toInt64))), none] [] u1.2).bind fun u5 => (asI u5.1).bind fun i6 => bif decide ((i6 : Int32) = 0) then G 141 30 [some (.inr (.inr x0)), some (.inl x1), some (.inl x2)] [] u5.2 else G 141 31 [some (.inr (.inr x0)), some (.inl x1), some (.inl x2)] [.inl 1] u5.2 else none) := by
  refine Eq.trans (e1 hG PT_141 k141_0 _ _ _) ?_
  show G 141 1 [some (.inr (.inr x0)), some (.inl x1), some (.inl x2)] [.inr (.inr x0)] H = _
  refine Eq.trans (e1 hG PT_141 k141_1 _ _ _) ?_
  show G 141 2 [some (.inr (.inr x0)), some (.inl x1), some (.inl x2)] [.inl x1, .inr (.inr x0)] H = _
  refine Eq.trans (e1 hG PT_141 k141_2 _ _ _) ?_
  refine bfc ?_ ?_
  · refine bdc fun u1 => ?_
    refine bdc fun i2 => ?_
    show G 141 5 [some (.inr (.inr x0)), some (.inl x1), some (.inl x2)] [.inl i2] u1.2 = _
    refine Eq.trans (e1 hG PT_141 k141_5 _ _ _) ?_
    refine bfc ?_ ?_
    · rfl
    · show G 141 8 [some (.inr (.inr x0)), some (.inl x1), some (.inl x2)] [] u1.2 = _
      refine Eq.trans (e1 hG PT_141 k141_8 _ _ _) ?_
      show G 141 9 [some (.inr (.inr x0)), some (.inl x1), some (.inl x2)] [.inl x2] u1.2 = _
      refine Eq.trans (e1 hG PT_141 k141_9 _ _ _) ?_
      show G 141 10 [some (.inr (.inr x0)), some (.inl x1), some (.inl x2)] [.inr (.inl x2.toInt64)] u1.2 = _
      refine Eq.trans (e1 hG PT_141 k141_10 _ _ _) ?_
      show G 141 11 [some (.inr (.inr x0)), some (.inl x1), some (.inl x2)] [.inr (.inl 0), .inr (.inl x2.toInt64)] u1.2 = _
      refine Eq.trans (e1 hG PT_141 k141_11 _ _ _) ?_
      show G 141 12 [some (.inr (.inr x0)), some (.inl x1), some (.inl x2)] [.inr (.inr x0), .inr (.inl 0), .inr (.inl x2.toInt64)] u1.2 = _
      refine Eq.trans (e1 hG PT_141 k141_12 _ _ _) ?_
      refine bdc fun r3 => ?_
      show G 141 15 [some (.inr (.inr x0)), some (.inl x1), some (.inl x2)] [.inr (.inr r3), .inr (.inl 0), .inr (.inl x2.toInt64)] u1.2 = _
      refine Eq.trans (e1 hG PT_141 k141_15 _ _ _) ?_
      show G 141 16 [some (.inr (.inr x0)), some (.inl x1), some (.inl x2)] [.inl x1, .inr (.inr r3), .inr (.inl 0), .inr (.inl x2.toInt64)] u1.2 = _
      refine Eq.trans (e1 hG PT_141 k141_16 _ _ _) ?_
      refine bdc fun i4 => ?_
      show G 141 17 [some (.inr (.inr x0)), some (.inl x1), some (.inl x2)] [.inl i4, .inr (.inl 0), .inr (.inl x2.toInt64)] u1.2 = _
      refine Eq.trans (e1 hG PT_141 k141_17 _ _ _) ?_
      show G 141 18 [some (.inr (.inr x0)), some (.inl x1), some (.inl x2)] [.inl 1, .inl i4, .inr (.inl 0), .inr (.inl x2.toInt64)] u1.2 = _
      refine Eq.trans (e1 hG PT_141 k141_18 _ _ _) ?_
      show G 141 19 [some (.inr (.inr x0)), some (.inl x1), some (.inl x2)] [.inl (i4 - 1), .inr (.inl 0), .inr (.inl x2.toInt64)] u1.2 = _
      refine Eq.trans (e1 hG PT_141 k141_19 _ _ _) ?_
      show G 141 20 [some (.inr (.inr x0)), some (.inl x1), some (.inl x2)] [.inr (.inl ((i4 - 1)).toInt64), .inr (.inl 0), .inr (.inl x2.toInt64)] u1.2 = _
      refine Eq.trans (e1 hG PT_141 k141_20 _ _ _) ?_
      refine bdc fun u5 => ?_
      refine bdc fun i6 => ?_
      show G 141 23 [some (.inr (.inr x0)), some (.inl x1), some (.inl x2)] [.inl i6] u5.2 = _
      refine Eq.trans (e1 hG PT_141 k141_23 _ _ _) ?_
      refine bfc ?_ ?_
      · rfl
      · show G 141 26 [some (.inr (.inr x0)), some (.inl x1), some (.inl x2)] [] u5.2 = _
        refine Eq.trans (e1 hG PT_141 k141_26 _ _ _) ?_
        show G 141 27 [some (.inr (.inr x0)), some (.inl x1), some (.inl x2)] [.inl 1] u5.2 = _
        refine Eq.trans (e1 hG PT_141 k141_27 _ _ _) ?_
        rfl
  · rfl
theorem b141_30 {G : AG} (hG : FIX G) (x0 : Nat) (x1 : Int32) (x2 : Int32) (H : Hp) : G 141 30 [some (.inr (.inr x0)), some (.inl x1), some (.inl x2)] [] H = (G 141 31 [some (.inr (.inr x0)), some (.inl x1), some (.inl x2)] [.inl 0] H) := by
  refine Eq.trans (e1 hG PT_141 k141_30 _ _ _) ?_
  rfl
theorem b141_31 {G : AG} (hG : FIX G) (x0 : Nat) (x1 : Int32) (x2 : Int32) (s0 : Int32) (H : Hp) : G 141 31 [some (.inr (.inr x0)), some (.inl x1), some (.inl x2)] [.inl s0] H = (retZ s0 H) := by
  exact e1 hG PT_141 k141_31 _ _ _
-- StepsAheadModel.is(III)I
theorem PT_142 : PT 142 = pt142 := rfl
theorem k142_0 : lkp pt142 0 = iP 1 (fAld 0) := rfl
theorem k142_1 : lkp pt142 1 = iP 2 (fIld 1) := rfl
theorem k142_2 : lkp pt142 2 = iP 3 (fIld 2) := rfl
theorem k142_3 : lkp pt142 3 = iCK 6 12 141 3 3 1 := rfl
theorem k142_6 : lkp pt142 6 = iB 9 21 (b1 (fun x => decide (x = 0))) := rfl
theorem k142_9 : lkp pt142 9 = iP 10 (fIld 3) := rfl
theorem k142_10 : lkp pt142 10 = iP 11 fI2l := rfl
theorem k142_11 : lkp pt142 11 = iP 12 (fK (.inr (.inl 0))) := rfl
theorem k142_12 : lkp pt142 12 = iP 15 (fK (.inr (.inl 8))) := rfl
theorem k142_15 : lkp pt142 15 = iC 18 130 6 3 1 := rfl
theorem k142_18 : lkp pt142 18 = iB 21 24 (b1 (fun x => decide (x ≠ 0))) := rfl
theorem k142_21 : lkp pt142 21 = iP 23 (fK (.inl (-1000001))) := rfl
theorem k142_23 : lkp pt142 23 = iRet rI := rfl
theorem k142_24 : lkp pt142 24 = iP 25 (fAld 0) := rfl
theorem k142_25 : lkp pt142 25 = iRR 28 (gtR 52) := rfl
theorem k142_28 : lkp pt142 28 = iP 30 (fK (.inl 24)) := rfl
theorem k142_30 : lkp pt142 30 = iP 31 (fIld 1) := rfl
theorem k142_31 : lkp pt142 31 = iP 32 (f2I (fun x y => x * y)) := rfl
theorem k142_32 : lkp pt142 32 = iP 33 (fIld 2) := rfl
theorem k142_33 : lkp pt142 33 = iP 34 (f2I (fun x y => x + y)) := rfl
theorem k142_34 : lkp pt142 34 = iRI 35 qAI := rfl
theorem k142_35 : lkp pt142 35 = iP 37 (fIst 4) := rfl
theorem k142_37 : lkp pt142 37 = iP 39 (fIld 4) := rfl
theorem k142_39 : lkp pt142 39 = iP 40 (fIld 3) := rfl
theorem k142_40 : lkp pt142 40 = iB 43 60 (b2 (fun x y => decide (x = y))) := rfl
theorem k142_43 : lkp pt142 43 = iP 44 (fIld 3) := rfl
theorem k142_44 : lkp pt142 44 = iB 47 60 (b1 (fun x => decide (x = 0))) := rfl
theorem k142_47 : lkp pt142 47 = iP 48 (fIld 3) := rfl
theorem k142_48 : lkp pt142 48 = iP 49 (fK (.inl 2)) := rfl
theorem k142_49 : lkp pt142 49 = iB 52 64 (b2 (fun x y => decide (x ≠ y))) := rfl
theorem k142_52 : lkp pt142 52 = iP 54 (fIld 4) := rfl
theorem k142_54 : lkp pt142 54 = iC 57 143 1 1 1 := rfl
theorem k142_57 : lkp pt142 57 = iB 60 64 (b1 (fun x => decide (x = 0))) := rfl
theorem k142_60 : lkp pt142 60 = iP 61 (fK (.inl 1)) := rfl
theorem k142_61 : lkp pt142 61 = iP 65 fGo := rfl
theorem k142_64 : lkp pt142 64 = iP 65 (fK (.inl 0)) := rfl
theorem k142_65 : lkp pt142 65 = iRet rI := rfl
theorem b142_0 {G : AG} (hG : FIX G) (x0 : Nat) (x1 : Int32) (x2 : Int32) (x3 : Int32) (H : Hp) : G 142 0 [some (.inr (.inr x0)), some (.inl x1), some (.inl x2), some (.inl x3), none] [] H = (bif Nat.beq (H.1 x0).1 12 then (G 141 0 [some (.inr (.inr x0)), some (.inl x1), some (.inl x2)] [] H).bind fun u1 => (asI u1.1).bind fun i2 => bif decide ((i2 : Int32) = 0) then G 142 21 [some (.inr (.inr x0)), some (.inl x1), some (.inl x2), some (.inl x3), none] [] u1.2 else (G 130 0 [some (.inr (.inl x3.toInt64)), none, some (.inr (.inl 0)), none, some (.inr (.inl 8)), none] [] u1.2).bind fun u3 => (asI u3.1).bind fun i4 => bif decide ((i4 : Int32) ≠ 0) then (hgR u3.2 x0 52).bind fun r5 => (hAI u3.2 r5 (((24 * x1) + x2))).bind fun i6 => bif decide ((i6 : Int32) = (x3 : Int32)) then G 142 60 [some (.inr (.inr x0)), some (.inl x1), some (.inl x2), some (.inl x3), some (.inl i6)] [] u3.2 else bif decide ((x3 : Int32) = 0) then G 142 60 [some (.inr (.inr x0)), some (.inl x1), some (.inl x2), some (.inl x3), some (.inl i6)] [] u3.2 else bif decide ((x3 : Int32) ≠ (2 : Int32)) then G 142 64 [some (.inr (.inr x0)), some (.inl x1), some (.inl x2), some (.inl x3), some (.inl i6)] [] u3.2 else (G 143 0 [some (.inl i6)] [] u3.2).bind fun u7 => (asI u7.1).bind fun i8 => bif decide ((i8 : Int32) = 0) then G 142 64 [some (.inr (.inr x0)), some (.inl x1), some (.inl x2), some (.inl x3), some (.inl i6)] [] u7.2 else G 142 60 [some (.inr (.inr x0)), some (.inl x1), some (.inl x2), some (.inl x3), some (.inl i6)] [] u7.2 else G 142 21 [some (.inr (.inr x0)), some (.inl x1), some (.inl x2), some (.inl x3), none] [] u3.2 else none) := by
  refine Eq.trans (e1 hG PT_142 k142_0 _ _ _) ?_
  show G 142 1 [some (.inr (.inr x0)), some (.inl x1), some (.inl x2), some (.inl x3), none] [.inr (.inr x0)] H = _
  refine Eq.trans (e1 hG PT_142 k142_1 _ _ _) ?_
  show G 142 2 [some (.inr (.inr x0)), some (.inl x1), some (.inl x2), some (.inl x3), none] [.inl x1, .inr (.inr x0)] H = _
  refine Eq.trans (e1 hG PT_142 k142_2 _ _ _) ?_
  show G 142 3 [some (.inr (.inr x0)), some (.inl x1), some (.inl x2), some (.inl x3), none] [.inl x2, .inl x1, .inr (.inr x0)] H = _
  refine Eq.trans (e1 hG PT_142 k142_3 _ _ _) ?_
  refine bfc ?_ ?_
  · refine bdc fun u1 => ?_
    refine bdc fun i2 => ?_
    show G 142 6 [some (.inr (.inr x0)), some (.inl x1), some (.inl x2), some (.inl x3), none] [.inl i2] u1.2 = _
    refine Eq.trans (e1 hG PT_142 k142_6 _ _ _) ?_
    refine bfc ?_ ?_
    · rfl
    · show G 142 9 [some (.inr (.inr x0)), some (.inl x1), some (.inl x2), some (.inl x3), none] [] u1.2 = _
      refine Eq.trans (e1 hG PT_142 k142_9 _ _ _) ?_
      show G 142 10 [some (.inr (.inr x0)), some (.inl x1), some (.inl x2), some (.inl x3), none] [.inl x3] u1.2 = _
      refine Eq.trans (e1 hG PT_142 k142_10 _ _ _) ?_
      show G 142 11 [some (.inr (.inr x0)), some (.inl x1), some (.inl x2), some (.inl x3), none] [.inr (.inl x3.toInt64)] u1.2 = _
      refine Eq.trans (e1 hG PT_142 k142_11 _ _ _) ?_
      show G 142 12 [some (.inr (.inr x0)), some (.inl x1), some (.inl x2), some (.inl x3), none] [.inr (.inl 0), .inr (.inl x3.toInt64)] u1.2 = _
      refine Eq.trans (e1 hG PT_142 k142_12 _ _ _) ?_
      show G 142 15 [some (.inr (.inr x0)), some (.inl x1), some (.inl x2), some (.inl x3), none] [.inr (.inl 8), .inr (.inl 0), .inr (.inl x3.toInt64)] u1.2 = _
      refine Eq.trans (e1 hG PT_142 k142_15 _ _ _) ?_
      refine bdc fun u3 => ?_
      refine bdc fun i4 => ?_
      show G 142 18 [some (.inr (.inr x0)), some (.inl x1), some (.inl x2), some (.inl x3), none] [.inl i4] u3.2 = _
      refine Eq.trans (e1 hG PT_142 k142_18 _ _ _) ?_
      refine bfc ?_ ?_
      · show G 142 24 [some (.inr (.inr x0)), some (.inl x1), some (.inl x2), some (.inl x3), none] [] u3.2 = _
        refine Eq.trans (e1 hG PT_142 k142_24 _ _ _) ?_
        show G 142 25 [some (.inr (.inr x0)), some (.inl x1), some (.inl x2), some (.inl x3), none] [.inr (.inr x0)] u3.2 = _
        refine Eq.trans (e1 hG PT_142 k142_25 _ _ _) ?_
        refine bdc fun r5 => ?_
        show G 142 28 [some (.inr (.inr x0)), some (.inl x1), some (.inl x2), some (.inl x3), none] [.inr (.inr r5)] u3.2 = _
        refine Eq.trans (e1 hG PT_142 k142_28 _ _ _) ?_
        show G 142 30 [some (.inr (.inr x0)), some (.inl x1), some (.inl x2), some (.inl x3), none] [.inl 24, .inr (.inr r5)] u3.2 = _
        refine Eq.trans (e1 hG PT_142 k142_30 _ _ _) ?_
        show G 142 31 [some (.inr (.inr x0)), some (.inl x1), some (.inl x2), some (.inl x3), none] [.inl x1, .inl 24, .inr (.inr r5)] u3.2 = _
        refine Eq.trans (e1 hG PT_142 k142_31 _ _ _) ?_
        show G 142 32 [some (.inr (.inr x0)), some (.inl x1), some (.inl x2), some (.inl x3), none] [.inl (24 * x1), .inr (.inr r5)] u3.2 = _
        refine Eq.trans (e1 hG PT_142 k142_32 _ _ _) ?_
        show G 142 33 [some (.inr (.inr x0)), some (.inl x1), some (.inl x2), some (.inl x3), none] [.inl x2, .inl (24 * x1), .inr (.inr r5)] u3.2 = _
        refine Eq.trans (e1 hG PT_142 k142_33 _ _ _) ?_
        show G 142 34 [some (.inr (.inr x0)), some (.inl x1), some (.inl x2), some (.inl x3), none] [.inl ((24 * x1) + x2), .inr (.inr r5)] u3.2 = _
        refine Eq.trans (e1 hG PT_142 k142_34 _ _ _) ?_
        refine bdc fun i6 => ?_
        show G 142 35 [some (.inr (.inr x0)), some (.inl x1), some (.inl x2), some (.inl x3), none] [.inl i6] u3.2 = _
        refine Eq.trans (e1 hG PT_142 k142_35 _ _ _) ?_
        show G 142 37 [some (.inr (.inr x0)), some (.inl x1), some (.inl x2), some (.inl x3), some (.inl i6)] [] u3.2 = _
        refine Eq.trans (e1 hG PT_142 k142_37 _ _ _) ?_
        show G 142 39 [some (.inr (.inr x0)), some (.inl x1), some (.inl x2), some (.inl x3), some (.inl i6)] [.inl i6] u3.2 = _
        refine Eq.trans (e1 hG PT_142 k142_39 _ _ _) ?_
        show G 142 40 [some (.inr (.inr x0)), some (.inl x1), some (.inl x2), some (.inl x3), some (.inl i6)] [.inl x3, .inl i6] u3.2 = _
        refine Eq.trans (e1 hG PT_142 k142_40 _ _ _) ?_
        refine bfc ?_ ?_
        · rfl
        · show G 142 43 [some (.inr (.inr x0)), some (.inl x1), some (.inl x2), some (.inl x3), some (.inl i6)] [] u3.2 = _
          refine Eq.trans (e1 hG PT_142 k142_43 _ _ _) ?_
          show G 142 44 [some (.inr (.inr x0)), some (.inl x1), some (.inl x2), some (.inl x3), some (.inl i6)] [.inl x3] u3.2 = _
          refine Eq.trans (e1 hG PT_142 k142_44 _ _ _) ?_
          refine bfc ?_ ?_
          · rfl
          · show G 142 47 [some (.inr (.inr x0)), some (.inl x1), some (.inl x2), some (.inl x3), some (.inl i6)] [] u3.2 = _
            refine Eq.trans (e1 hG PT_142 k142_47 _ _ _) ?_
            show G 142 48 [some (.inr (.inr x0)), some (.inl x1), some (.inl x2), some (.inl x3), some (.inl i6)] [.inl x3] u3.2 = _
            refine Eq.trans (e1 hG PT_142 k142_48 _ _ _) ?_
            show G 142 49 [some (.inr (.inr x0)), some (.inl x1), some (.inl x2), some (.inl x3), some (.inl i6)] [.inl 2, .inl x3] u3.2 = _
            refine Eq.trans (e1 hG PT_142 k142_49 _ _ _) ?_
            refine bfc ?_ ?_
            · rfl
            · show G 142 52 [some (.inr (.inr x0)), some (.inl x1), some (.inl x2), some (.inl x3), some (.inl i6)] [] u3.2 = _
              refine Eq.trans (e1 hG PT_142 k142_52 _ _ _) ?_
              show G 142 54 [some (.inr (.inr x0)), some (.inl x1), some (.inl x2), some (.inl x3), some (.inl i6)] [.inl i6] u3.2 = _
              refine Eq.trans (e1 hG PT_142 k142_54 _ _ _) ?_
              refine bdc fun u7 => ?_
              refine bdc fun i8 => ?_
              show G 142 57 [some (.inr (.inr x0)), some (.inl x1), some (.inl x2), some (.inl x3), some (.inl i6)] [.inl i8] u7.2 = _
              refine Eq.trans (e1 hG PT_142 k142_57 _ _ _) ?_
              refine bfc ?_ ?_
              · rfl
              · rfl
      · rfl
  · rfl
theorem b142_21 {G : AG} (hG : FIX G) (x0 : Nat) (x1 : Int32) (x2 : Int32) (x3 : Int32) (H : Hp) : G 142 21 [some (.inr (.inr x0)), some (.inl x1), some (.inl x2), some (.inl x3), none] [] H = (some (some (.inl ((-1000001))), H)) := by
  refine Eq.trans (e1 hG PT_142 k142_21 _ _ _) ?_
  show G 142 23 [some (.inr (.inr x0)), some (.inl x1), some (.inl x2), some (.inl x3), none] [.inl (-1000001)] H = _
  exact e1 hG PT_142 k142_23 _ _ _
theorem b142_60 {G : AG} (hG : FIX G) (x0 : Nat) (x1 : Int32) (x2 : Int32) (x3 : Int32) (x4 : Int32) (H : Hp) : G 142 60 [some (.inr (.inr x0)), some (.inl x1), some (.inl x2), some (.inl x3), some (.inl x4)] [] H = (G 142 65 [some (.inr (.inr x0)), some (.inl x1), some (.inl x2), some (.inl x3), some (.inl x4)] [.inl 1] H) := by
  refine Eq.trans (e1 hG PT_142 k142_60 _ _ _) ?_
  show G 142 61 [some (.inr (.inr x0)), some (.inl x1), some (.inl x2), some (.inl x3), some (.inl x4)] [.inl 1] H = _
  refine Eq.trans (e1 hG PT_142 k142_61 _ _ _) ?_
  rfl
theorem b142_64 {G : AG} (hG : FIX G) (x0 : Nat) (x1 : Int32) (x2 : Int32) (x3 : Int32) (x4 : Int32) (H : Hp) : G 142 64 [some (.inr (.inr x0)), some (.inl x1), some (.inl x2), some (.inl x3), some (.inl x4)] [] H = (G 142 65 [some (.inr (.inr x0)), some (.inl x1), some (.inl x2), some (.inl x3), some (.inl x4)] [.inl 0] H) := by
  refine Eq.trans (e1 hG PT_142 k142_64 _ _ _) ?_
  rfl
theorem b142_65 {G : AG} (hG : FIX G) (x0 : Nat) (x1 : Int32) (x2 : Int32) (x3 : Int32) (x4 : Int32) (s0 : Int32) (H : Hp) : G 142 65 [some (.inr (.inr x0)), some (.inl x1), some (.inl x2), some (.inl x3), some (.inl x4)] [.inl s0] H = (some (some (.inl s0), H)) := by
  exact e1 hG PT_142 k142_65 _ _ _
-- StepsAheadModel.isCounted(I)Z
theorem PT_143 : PT 143 = pt143 := rfl
theorem k143_0 : lkp pt143 0 = iP 1 (fIld 0) := rfl
theorem k143_1 : lkp pt143 1 = iP 2 (fK (.inl 3)) := rfl
theorem k143_2 : lkp pt143 2 = iB 5 10 (b2 (fun x y => decide (x = y))) := rfl
theorem k143_5 : lkp pt143 5 = iP 6 (fIld 0) := rfl
theorem k143_6 : lkp pt143 6 = iP 7 (fK (.inl 4)) := rfl
theorem k143_7 : lkp pt143 7 = iB 10 14 (b2 (fun x y => decide (x ≠ y))) := rfl
theorem k143_10 : lkp pt143 10 = iP 11 (fK (.inl 1)) := rfl
theorem k143_11 : lkp pt143 11 = iP 15 fGo := rfl
theorem k143_14 : lkp pt143 14 = iP 15 (fK (.inl 0)) := rfl
theorem k143_15 : lkp pt143 15 = iRet rZ := rfl
theorem b143_0 {G : AG} (hG : FIX G) (x0 : Int32) (H : Hp) : G 143 0 [some (.inl x0)] [] H = (bif decide ((x0 : Int32) = (3 : Int32)) then G 143 10 [some (.inl x0)] [] H else bif decide ((x0 : Int32) ≠ (4 : Int32)) then G 143 15 [some (.inl x0)] [.inl 0] H else G 143 10 [some (.inl x0)] [] H) := by
  refine Eq.trans (e1 hG PT_143 k143_0 _ _ _) ?_
  show G 143 1 [some (.inl x0)] [.inl x0] H = _
  refine Eq.trans (e1 hG PT_143 k143_1 _ _ _) ?_
  show G 143 2 [some (.inl x0)] [.inl 3, .inl x0] H = _
  refine Eq.trans (e1 hG PT_143 k143_2 _ _ _) ?_
  refine bfc ?_ ?_
  · rfl
  · show G 143 5 [some (.inl x0)] [] H = _
    refine Eq.trans (e1 hG PT_143 k143_5 _ _ _) ?_
    show G 143 6 [some (.inl x0)] [.inl x0] H = _
    refine Eq.trans (e1 hG PT_143 k143_6 _ _ _) ?_
    show G 143 7 [some (.inl x0)] [.inl 4, .inl x0] H = _
    refine Eq.trans (e1 hG PT_143 k143_7 _ _ _) ?_
    refine bfc ?_ ?_
    · show G 143 14 [some (.inl x0)] [] H = _
      refine Eq.trans (e1 hG PT_143 k143_14 _ _ _) ?_
      rfl
    · rfl
theorem b143_10 {G : AG} (hG : FIX G) (x0 : Int32) (H : Hp) : G 143 10 [some (.inl x0)] [] H = (G 143 15 [some (.inl x0)] [.inl 1] H) := by
  refine Eq.trans (e1 hG PT_143 k143_10 _ _ _) ?_
  show G 143 11 [some (.inl x0)] [.inl 1] H = _
  refine Eq.trans (e1 hG PT_143 k143_11 _ _ _) ?_
  rfl
theorem b143_15 {G : AG} (hG : FIX G) (x0 : Int32) (s0 : Int32) (H : Hp) : G 143 15 [some (.inl x0)] [.inl s0] H = (retZ s0 H) := by
  exact e1 hG PT_143 k143_15 _ _ _
-- StepsAheadModel.told(III)I
theorem PT_144 : PT 144 = pt144 := rfl
theorem k144_0 : lkp pt144 0 = iP 1 (fAld 0) := rfl
theorem k144_1 : lkp pt144 1 = iP 2 (fIld 1) := rfl
theorem k144_2 : lkp pt144 2 = iP 3 (fIld 2) := rfl
theorem k144_3 : lkp pt144 3 = iCK 6 12 141 3 3 1 := rfl
theorem k144_6 : lkp pt144 6 = iB 9 21 (b1 (fun x => decide (x = 0))) := rfl
theorem k144_9 : lkp pt144 9 = iP 10 (fIld 3) := rfl
theorem k144_10 : lkp pt144 10 = iP 11 fI2l := rfl
theorem k144_11 : lkp pt144 11 = iP 12 (fK (.inr (.inl 0))) := rfl
theorem k144_12 : lkp pt144 12 = iP 15 (fK (.inr (.inl 5))) := rfl
theorem k144_15 : lkp pt144 15 = iC 18 130 6 3 1 := rfl
theorem k144_18 : lkp pt144 18 = iB 21 24 (b1 (fun x => decide (x ≠ 0))) := rfl
theorem k144_21 : lkp pt144 21 = iP 23 (fK (.inl (-1000001))) := rfl
theorem k144_23 : lkp pt144 23 = iRet rI := rfl
theorem k144_24 : lkp pt144 24 = iP 25 (fAld 0) := rfl
theorem k144_25 : lkp pt144 25 = iRR 28 (gtR 52) := rfl
theorem k144_28 : lkp pt144 28 = iP 30 (fK (.inl 24)) := rfl
theorem k144_30 : lkp pt144 30 = iP 31 (fIld 1) := rfl
theorem k144_31 : lkp pt144 31 = iP 32 (f2I (fun x y => x * y)) := rfl
theorem k144_32 : lkp pt144 32 = iP 33 (fIld 2) := rfl
theorem k144_33 : lkp pt144 33 = iP 34 (f2I (fun x y => x + y)) := rfl
theorem k144_34 : lkp pt144 34 = iRI 35 qAI := rfl
theorem k144_35 : lkp pt144 35 = iC 38 143 1 1 1 := rfl
theorem k144_38 : lkp pt144 38 = iB 41 60 (b1 (fun x => decide (x = 0))) := rfl
theorem k144_41 : lkp pt144 41 = iP 42 (fAld 0) := rfl
theorem k144_42 : lkp pt144 42 = iRR 45 (gtR 55) := rfl
theorem k144_45 : lkp pt144 45 = iP 47 (fK (.inl 12)) := rfl
theorem k144_47 : lkp pt144 47 = iP 49 (fK (.inl 24)) := rfl
theorem k144_49 : lkp pt144 49 = iP 50 (fIld 1) := rfl
theorem k144_50 : lkp pt144 50 = iP 51 (f2I (fun x y => x * y)) := rfl
theorem k144_51 : lkp pt144 51 = iP 52 (fIld 2) := rfl
theorem k144_52 : lkp pt144 52 = iP 53 (f2I (fun x y => x + y)) := rfl
theorem k144_53 : lkp pt144 53 = iP 54 (f2I (fun x y => x * y)) := rfl
theorem k144_54 : lkp pt144 54 = iP 55 (fIld 3) := rfl
theorem k144_55 : lkp pt144 55 = iP 56 (f2I (fun x y => x + y)) := rfl
theorem k144_56 : lkp pt144 56 = iRI 57 qAI := rfl
theorem k144_57 : lkp pt144 57 = iP 62 fGo := rfl
theorem k144_60 : lkp pt144 60 = iP 62 (fK (.inl (-1000005))) := rfl
theorem k144_62 : lkp pt144 62 = iRet rI := rfl
theorem b144_0 {G : AG} (hG : FIX G) (x0 : Nat) (x1 : Int32) (x2 : Int32) (x3 : Int32) (H : Hp) : G 144 0 [some (.inr (.inr x0)), some (.inl x1), some (.inl x2), some (.inl x3)] [] H = (bif Nat.beq (H.1 x0).1 12 then (G 141 0 [some (.inr (.inr x0)), some (.inl x1), some (.inl x2)] [] H).bind fun u1 => (asI u1.1).bind fun i2 => bif decide ((i2 : Int32) = 0) then G 144 21 [some (.inr (.inr x0)), some (.inl x1), some (.inl x2), some (.inl x3)] [] u1.2 else (G 130 0 [some (.inr (.inl x3.toInt64)), none, some (.inr (.inl 0)), none, some (.inr (.inl 5)), none] [] u1.2).bind fun u3 => (asI u3.1).bind fun i4 => bif decide ((i4 : Int32) ≠ 0) then (hgR u3.2 x0 52).bind fun r5 => (hAI u3.2 r5 (((24 * x1) + x2))).bind fun i6 => (G 143 0 [some (.inl i6)] [] u3.2).bind fun u7 => (asI u7.1).bind fun i8 => bif decide ((i8 : Int32) = 0) then G 144 62 [some (.inr (.inr x0)), some (.inl x1), some (.inl x2), some (.inl x3)] [.inl (-1000005)] u7.2 else (hgR u7.2 x0 55).bind fun r9 => (hAI u7.2 r9 (((12 * ((24 * x1) + x2)) + x3))).bind fun i10 => G 144 62 [some (.inr (.inr x0)), some (.inl x1), some (.inl x2), some (.inl x3)] [.inl i10] u7.2 else G 144 21 [some (.inr (.inr x0)), some (.inl x1), some (.inl x2), some (.inl x3)] [] u3.2 else none) := by
  refine Eq.trans (e1 hG PT_144 k144_0 _ _ _) ?_
  show G 144 1 [some (.inr (.inr x0)), some (.inl x1), some (.inl x2), some (.inl x3)] [.inr (.inr x0)] H = _
  refine Eq.trans (e1 hG PT_144 k144_1 _ _ _) ?_
  show G 144 2 [some (.inr (.inr x0)), some (.inl x1), some (.inl x2), some (.inl x3)] [.inl x1, .inr (.inr x0)] H = _
  refine Eq.trans (e1 hG PT_144 k144_2 _ _ _) ?_
  show G 144 3 [some (.inr (.inr x0)), some (.inl x1), some (.inl x2), some (.inl x3)] [.inl x2, .inl x1, .inr (.inr x0)] H = _
  refine Eq.trans (e1 hG PT_144 k144_3 _ _ _) ?_
  refine bfc ?_ ?_
  · refine bdc fun u1 => ?_
    refine bdc fun i2 => ?_
    show G 144 6 [some (.inr (.inr x0)), some (.inl x1), some (.inl x2), some (.inl x3)] [.inl i2] u1.2 = _
    refine Eq.trans (e1 hG PT_144 k144_6 _ _ _) ?_
    refine bfc ?_ ?_
    · rfl
    · show G 144 9 [some (.inr (.inr x0)), some (.inl x1), some (.inl x2), some (.inl x3)] [] u1.2 = _
      refine Eq.trans (e1 hG PT_144 k144_9 _ _ _) ?_
      show G 144 10 [some (.inr (.inr x0)), some (.inl x1), some (.inl x2), some (.inl x3)] [.inl x3] u1.2 = _
      refine Eq.trans (e1 hG PT_144 k144_10 _ _ _) ?_
      show G 144 11 [some (.inr (.inr x0)), some (.inl x1), some (.inl x2), some (.inl x3)] [.inr (.inl x3.toInt64)] u1.2 = _
      refine Eq.trans (e1 hG PT_144 k144_11 _ _ _) ?_
      show G 144 12 [some (.inr (.inr x0)), some (.inl x1), some (.inl x2), some (.inl x3)] [.inr (.inl 0), .inr (.inl x3.toInt64)] u1.2 = _
      refine Eq.trans (e1 hG PT_144 k144_12 _ _ _) ?_
      show G 144 15 [some (.inr (.inr x0)), some (.inl x1), some (.inl x2), some (.inl x3)] [.inr (.inl 5), .inr (.inl 0), .inr (.inl x3.toInt64)] u1.2 = _
      refine Eq.trans (e1 hG PT_144 k144_15 _ _ _) ?_
      refine bdc fun u3 => ?_
      refine bdc fun i4 => ?_
      show G 144 18 [some (.inr (.inr x0)), some (.inl x1), some (.inl x2), some (.inl x3)] [.inl i4] u3.2 = _
      refine Eq.trans (e1 hG PT_144 k144_18 _ _ _) ?_
      refine bfc ?_ ?_
      · show G 144 24 [some (.inr (.inr x0)), some (.inl x1), some (.inl x2), some (.inl x3)] [] u3.2 = _
        refine Eq.trans (e1 hG PT_144 k144_24 _ _ _) ?_
        show G 144 25 [some (.inr (.inr x0)), some (.inl x1), some (.inl x2), some (.inl x3)] [.inr (.inr x0)] u3.2 = _
        refine Eq.trans (e1 hG PT_144 k144_25 _ _ _) ?_
        refine bdc fun r5 => ?_
        show G 144 28 [some (.inr (.inr x0)), some (.inl x1), some (.inl x2), some (.inl x3)] [.inr (.inr r5)] u3.2 = _
        refine Eq.trans (e1 hG PT_144 k144_28 _ _ _) ?_
        show G 144 30 [some (.inr (.inr x0)), some (.inl x1), some (.inl x2), some (.inl x3)] [.inl 24, .inr (.inr r5)] u3.2 = _
        refine Eq.trans (e1 hG PT_144 k144_30 _ _ _) ?_
        show G 144 31 [some (.inr (.inr x0)), some (.inl x1), some (.inl x2), some (.inl x3)] [.inl x1, .inl 24, .inr (.inr r5)] u3.2 = _
        refine Eq.trans (e1 hG PT_144 k144_31 _ _ _) ?_
        show G 144 32 [some (.inr (.inr x0)), some (.inl x1), some (.inl x2), some (.inl x3)] [.inl (24 * x1), .inr (.inr r5)] u3.2 = _
        refine Eq.trans (e1 hG PT_144 k144_32 _ _ _) ?_
        show G 144 33 [some (.inr (.inr x0)), some (.inl x1), some (.inl x2), some (.inl x3)] [.inl x2, .inl (24 * x1), .inr (.inr r5)] u3.2 = _
        refine Eq.trans (e1 hG PT_144 k144_33 _ _ _) ?_
        show G 144 34 [some (.inr (.inr x0)), some (.inl x1), some (.inl x2), some (.inl x3)] [.inl ((24 * x1) + x2), .inr (.inr r5)] u3.2 = _
        refine Eq.trans (e1 hG PT_144 k144_34 _ _ _) ?_
        refine bdc fun i6 => ?_
        show G 144 35 [some (.inr (.inr x0)), some (.inl x1), some (.inl x2), some (.inl x3)] [.inl i6] u3.2 = _
        refine Eq.trans (e1 hG PT_144 k144_35 _ _ _) ?_
        refine bdc fun u7 => ?_
        refine bdc fun i8 => ?_
        show G 144 38 [some (.inr (.inr x0)), some (.inl x1), some (.inl x2), some (.inl x3)] [.inl i8] u7.2 = _
        refine Eq.trans (e1 hG PT_144 k144_38 _ _ _) ?_
        refine bfc ?_ ?_
        · show G 144 60 [some (.inr (.inr x0)), some (.inl x1), some (.inl x2), some (.inl x3)] [] u7.2 = _
          refine Eq.trans (e1 hG PT_144 k144_60 _ _ _) ?_
          rfl
        · show G 144 41 [some (.inr (.inr x0)), some (.inl x1), some (.inl x2), some (.inl x3)] [] u7.2 = _
          refine Eq.trans (e1 hG PT_144 k144_41 _ _ _) ?_
          show G 144 42 [some (.inr (.inr x0)), some (.inl x1), some (.inl x2), some (.inl x3)] [.inr (.inr x0)] u7.2 = _
          refine Eq.trans (e1 hG PT_144 k144_42 _ _ _) ?_
          refine bdc fun r9 => ?_
          show G 144 45 [some (.inr (.inr x0)), some (.inl x1), some (.inl x2), some (.inl x3)] [.inr (.inr r9)] u7.2 = _
          refine Eq.trans (e1 hG PT_144 k144_45 _ _ _) ?_
          show G 144 47 [some (.inr (.inr x0)), some (.inl x1), some (.inl x2), some (.inl x3)] [.inl 12, .inr (.inr r9)] u7.2 = _
          refine Eq.trans (e1 hG PT_144 k144_47 _ _ _) ?_
          show G 144 49 [some (.inr (.inr x0)), some (.inl x1), some (.inl x2), some (.inl x3)] [.inl 24, .inl 12, .inr (.inr r9)] u7.2 = _
          refine Eq.trans (e1 hG PT_144 k144_49 _ _ _) ?_
          show G 144 50 [some (.inr (.inr x0)), some (.inl x1), some (.inl x2), some (.inl x3)] [.inl x1, .inl 24, .inl 12, .inr (.inr r9)] u7.2 = _
          refine Eq.trans (e1 hG PT_144 k144_50 _ _ _) ?_
          show G 144 51 [some (.inr (.inr x0)), some (.inl x1), some (.inl x2), some (.inl x3)] [.inl (24 * x1), .inl 12, .inr (.inr r9)] u7.2 = _
          refine Eq.trans (e1 hG PT_144 k144_51 _ _ _) ?_
          show G 144 52 [some (.inr (.inr x0)), some (.inl x1), some (.inl x2), some (.inl x3)] [.inl x2, .inl (24 * x1), .inl 12, .inr (.inr r9)] u7.2 = _
          refine Eq.trans (e1 hG PT_144 k144_52 _ _ _) ?_
          show G 144 53 [some (.inr (.inr x0)), some (.inl x1), some (.inl x2), some (.inl x3)] [.inl ((24 * x1) + x2), .inl 12, .inr (.inr r9)] u7.2 = _
          refine Eq.trans (e1 hG PT_144 k144_53 _ _ _) ?_
          show G 144 54 [some (.inr (.inr x0)), some (.inl x1), some (.inl x2), some (.inl x3)] [.inl (12 * ((24 * x1) + x2)), .inr (.inr r9)] u7.2 = _
          refine Eq.trans (e1 hG PT_144 k144_54 _ _ _) ?_
          show G 144 55 [some (.inr (.inr x0)), some (.inl x1), some (.inl x2), some (.inl x3)] [.inl x3, .inl (12 * ((24 * x1) + x2)), .inr (.inr r9)] u7.2 = _
          refine Eq.trans (e1 hG PT_144 k144_55 _ _ _) ?_
          show G 144 56 [some (.inr (.inr x0)), some (.inl x1), some (.inl x2), some (.inl x3)] [.inl ((12 * ((24 * x1) + x2)) + x3), .inr (.inr r9)] u7.2 = _
          refine Eq.trans (e1 hG PT_144 k144_56 _ _ _) ?_
          refine bdc fun i10 => ?_
          show G 144 57 [some (.inr (.inr x0)), some (.inl x1), some (.inl x2), some (.inl x3)] [.inl i10] u7.2 = _
          refine Eq.trans (e1 hG PT_144 k144_57 _ _ _) ?_
          rfl
      · rfl
  · rfl
theorem b144_21 {G : AG} (hG : FIX G) (x0 : Nat) (x1 : Int32) (x2 : Int32) (x3 : Int32) (H : Hp) : G 144 21 [some (.inr (.inr x0)), some (.inl x1), some (.inl x2), some (.inl x3)] [] H = (some (some (.inl ((-1000001))), H)) := by
  refine Eq.trans (e1 hG PT_144 k144_21 _ _ _) ?_
  show G 144 23 [some (.inr (.inr x0)), some (.inl x1), some (.inl x2), some (.inl x3)] [.inl (-1000001)] H = _
  exact e1 hG PT_144 k144_23 _ _ _
theorem b144_62 {G : AG} (hG : FIX G) (x0 : Nat) (x1 : Int32) (x2 : Int32) (x3 : Int32) (s0 : Int32) (H : Hp) : G 144 62 [some (.inr (.inr x0)), some (.inl x1), some (.inl x2), some (.inl x3)] [.inl s0] H = (some (some (.inl s0), H)) := by
  exact e1 hG PT_144 k144_62 _ _ _
-- StepsAheadModel.ask(III)I
theorem PT_145 : PT 145 = pt145 := rfl
theorem k145_0 : lkp pt145 0 = iP 1 (fAld 0) := rfl
theorem k145_1 : lkp pt145 1 = iP 2 (fIld 1) := rfl
theorem k145_2 : lkp pt145 2 = iP 3 (fIld 2) := rfl
theorem k145_3 : lkp pt145 3 = iCK 6 12 141 3 3 1 := rfl
theorem k145_6 : lkp pt145 6 = iB 9 19 (b1 (fun x => decide (x = 0))) := rfl
theorem k145_9 : lkp pt145 9 = iP 10 (fIld 3) := rfl
theorem k145_10 : lkp pt145 10 = iP 11 fI2l := rfl
theorem k145_11 : lkp pt145 11 = iP 12 (fK (.inr (.inl 0))) := rfl
theorem k145_12 : lkp pt145 12 = iP 13 (fK (.inr (.inl 1))) := rfl
theorem k145_13 : lkp pt145 13 = iC 16 130 6 3 1 := rfl
theorem k145_16 : lkp pt145 16 = iB 19 22 (b1 (fun x => decide (x ≠ 0))) := rfl
theorem k145_19 : lkp pt145 19 = iP 21 (fK (.inl (-1000001))) := rfl
theorem k145_21 : lkp pt145 21 = iRet rI := rfl
theorem k145_22 : lkp pt145 22 = iP 23 (fAld 0) := rfl
theorem k145_23 : lkp pt145 23 = iP 24 (fK (.inl 0)) := rfl
theorem k145_24 : lkp pt145 24 = iW 27 (ptI 59) := rfl
theorem k145_27 : lkp pt145 27 = iP 28 (fIld 3) := rfl
theorem k145_28 : lkp pt145 28 = iB 31 44 (b1 (fun x => decide (x ≠ 0))) := rfl
theorem k145_31 : lkp pt145 31 = iP 32 (fAld 0) := rfl
theorem k145_32 : lkp pt145 32 = iP 34 (fK (.inl 24)) := rfl
theorem k145_34 : lkp pt145 34 = iP 35 (fIld 1) := rfl
theorem k145_35 : lkp pt145 35 = iP 36 (f2I (fun x y => x * y)) := rfl
theorem k145_36 : lkp pt145 36 = iP 37 (fIld 2) := rfl
theorem k145_37 : lkp pt145 37 = iP 38 (f2I (fun x y => x + y)) := rfl
theorem k145_38 : lkp pt145 38 = iCK 41 12 146 3 2 1 := rfl
theorem k145_41 : lkp pt145 41 = iP 50 fGo := rfl
theorem k145_44 : lkp pt145 44 = iP 45 (fAld 0) := rfl
theorem k145_45 : lkp pt145 45 = iP 46 (fIld 1) := rfl
theorem k145_46 : lkp pt145 46 = iP 47 (fIld 2) := rfl
theorem k145_47 : lkp pt145 47 = iCK 50 12 149 5 3 1 := rfl
theorem k145_50 : lkp pt145 50 = iRet rI := rfl
theorem b145_0 {G : AG} (hG : FIX G) (x0 : Nat) (x1 : Int32) (x2 : Int32) (x3 : Int32) (H : Hp) : G 145 0 [some (.inr (.inr x0)), some (.inl x1), some (.inl x2), some (.inl x3)] [] H = (bif Nat.beq (H.1 x0).1 12 then (G 141 0 [some (.inr (.inr x0)), some (.inl x1), some (.inl x2)] [] H).bind fun u1 => (asI u1.1).bind fun i2 => bif decide ((i2 : Int32) = 0) then G 145 19 [some (.inr (.inr x0)), some (.inl x1), some (.inl x2), some (.inl x3)] [] u1.2 else (G 130 0 [some (.inr (.inl x3.toInt64)), none, some (.inr (.inl 0)), none, some (.inr (.inl 1)), none] [] u1.2).bind fun u3 => (asI u3.1).bind fun i4 => bif decide ((i4 : Int32) ≠ 0) then (hpI u3.2 x0 59 0).bind fun H5 => bif decide ((x3 : Int32) ≠ 0) then bif Nat.beq (H5.1 x0).1 12 then (G 149 0 [some (.inr (.inr x0)), some (.inl x1), some (.inl x2), none, none] [] H5).bind fun u6 => (asI u6.1).bind fun i7 => G 145 50 [some (.inr (.inr x0)), some (.inl x1), some (.inl x2), some (.inl x3)] [.inl i7] u6.2 else none else bif Nat.beq (H5.1 x0).1 12 then (G 146 0 [some (.inr (.inr x0)), some (.inl (((24 * x1) + x2))), none] [] H5).bind fun u8 => (asI u8.1).bind fun i9 => G 145 50 [some (.inr (.inr x0)), some (.inl x1), some (.inl x2), some (.inl x3)] [.inl i9] u8.2 else none else G 145 19 [some (.inr (.inr x0)), some (.inl x1), some (.inl x2), some (.inl x3)] [] u3.2 else none) := by
  refine Eq.trans (e1 hG PT_145 k145_0 _ _ _) ?_
  show G 145 1 [some (.inr (.inr x0)), some (.inl x1), some (.inl x2), some (.inl x3)] [.inr (.inr x0)] H = _
  refine Eq.trans (e1 hG PT_145 k145_1 _ _ _) ?_
  show G 145 2 [some (.inr (.inr x0)), some (.inl x1), some (.inl x2), some (.inl x3)] [.inl x1, .inr (.inr x0)] H = _
  refine Eq.trans (e1 hG PT_145 k145_2 _ _ _) ?_
  show G 145 3 [some (.inr (.inr x0)), some (.inl x1), some (.inl x2), some (.inl x3)] [.inl x2, .inl x1, .inr (.inr x0)] H = _
  refine Eq.trans (e1 hG PT_145 k145_3 _ _ _) ?_
  refine bfc ?_ ?_
  · refine bdc fun u1 => ?_
    refine bdc fun i2 => ?_
    show G 145 6 [some (.inr (.inr x0)), some (.inl x1), some (.inl x2), some (.inl x3)] [.inl i2] u1.2 = _
    refine Eq.trans (e1 hG PT_145 k145_6 _ _ _) ?_
    refine bfc ?_ ?_
    · rfl
    · show G 145 9 [some (.inr (.inr x0)), some (.inl x1), some (.inl x2), some (.inl x3)] [] u1.2 = _
      refine Eq.trans (e1 hG PT_145 k145_9 _ _ _) ?_
      show G 145 10 [some (.inr (.inr x0)), some (.inl x1), some (.inl x2), some (.inl x3)] [.inl x3] u1.2 = _
      refine Eq.trans (e1 hG PT_145 k145_10 _ _ _) ?_
      show G 145 11 [some (.inr (.inr x0)), some (.inl x1), some (.inl x2), some (.inl x3)] [.inr (.inl x3.toInt64)] u1.2 = _
      refine Eq.trans (e1 hG PT_145 k145_11 _ _ _) ?_
      show G 145 12 [some (.inr (.inr x0)), some (.inl x1), some (.inl x2), some (.inl x3)] [.inr (.inl 0), .inr (.inl x3.toInt64)] u1.2 = _
      refine Eq.trans (e1 hG PT_145 k145_12 _ _ _) ?_
      show G 145 13 [some (.inr (.inr x0)), some (.inl x1), some (.inl x2), some (.inl x3)] [.inr (.inl 1), .inr (.inl 0), .inr (.inl x3.toInt64)] u1.2 = _
      refine Eq.trans (e1 hG PT_145 k145_13 _ _ _) ?_
      refine bdc fun u3 => ?_
      refine bdc fun i4 => ?_
      show G 145 16 [some (.inr (.inr x0)), some (.inl x1), some (.inl x2), some (.inl x3)] [.inl i4] u3.2 = _
      refine Eq.trans (e1 hG PT_145 k145_16 _ _ _) ?_
      refine bfc ?_ ?_
      · show G 145 22 [some (.inr (.inr x0)), some (.inl x1), some (.inl x2), some (.inl x3)] [] u3.2 = _
        refine Eq.trans (e1 hG PT_145 k145_22 _ _ _) ?_
        show G 145 23 [some (.inr (.inr x0)), some (.inl x1), some (.inl x2), some (.inl x3)] [.inr (.inr x0)] u3.2 = _
        refine Eq.trans (e1 hG PT_145 k145_23 _ _ _) ?_
        show G 145 24 [some (.inr (.inr x0)), some (.inl x1), some (.inl x2), some (.inl x3)] [.inl 0, .inr (.inr x0)] u3.2 = _
        refine Eq.trans (e1 hG PT_145 k145_24 _ _ _) ?_
        refine bdc fun H5 => ?_
        show G 145 27 [some (.inr (.inr x0)), some (.inl x1), some (.inl x2), some (.inl x3)] [] H5 = _
        refine Eq.trans (e1 hG PT_145 k145_27 _ _ _) ?_
        show G 145 28 [some (.inr (.inr x0)), some (.inl x1), some (.inl x2), some (.inl x3)] [.inl x3] H5 = _
        refine Eq.trans (e1 hG PT_145 k145_28 _ _ _) ?_
        refine bfc ?_ ?_
        · show G 145 44 [some (.inr (.inr x0)), some (.inl x1), some (.inl x2), some (.inl x3)] [] H5 = _
          refine Eq.trans (e1 hG PT_145 k145_44 _ _ _) ?_
          show G 145 45 [some (.inr (.inr x0)), some (.inl x1), some (.inl x2), some (.inl x3)] [.inr (.inr x0)] H5 = _
          refine Eq.trans (e1 hG PT_145 k145_45 _ _ _) ?_
          show G 145 46 [some (.inr (.inr x0)), some (.inl x1), some (.inl x2), some (.inl x3)] [.inl x1, .inr (.inr x0)] H5 = _
          refine Eq.trans (e1 hG PT_145 k145_46 _ _ _) ?_
          show G 145 47 [some (.inr (.inr x0)), some (.inl x1), some (.inl x2), some (.inl x3)] [.inl x2, .inl x1, .inr (.inr x0)] H5 = _
          refine Eq.trans (e1 hG PT_145 k145_47 _ _ _) ?_
          refine bfc ?_ ?_
          · refine bdc fun u6 => ?_
            refine bdc fun i7 => ?_
            rfl
          · rfl
        · show G 145 31 [some (.inr (.inr x0)), some (.inl x1), some (.inl x2), some (.inl x3)] [] H5 = _
          refine Eq.trans (e1 hG PT_145 k145_31 _ _ _) ?_
          show G 145 32 [some (.inr (.inr x0)), some (.inl x1), some (.inl x2), some (.inl x3)] [.inr (.inr x0)] H5 = _
          refine Eq.trans (e1 hG PT_145 k145_32 _ _ _) ?_
          show G 145 34 [some (.inr (.inr x0)), some (.inl x1), some (.inl x2), some (.inl x3)] [.inl 24, .inr (.inr x0)] H5 = _
          refine Eq.trans (e1 hG PT_145 k145_34 _ _ _) ?_
          show G 145 35 [some (.inr (.inr x0)), some (.inl x1), some (.inl x2), some (.inl x3)] [.inl x1, .inl 24, .inr (.inr x0)] H5 = _
          refine Eq.trans (e1 hG PT_145 k145_35 _ _ _) ?_
          show G 145 36 [some (.inr (.inr x0)), some (.inl x1), some (.inl x2), some (.inl x3)] [.inl (24 * x1), .inr (.inr x0)] H5 = _
          refine Eq.trans (e1 hG PT_145 k145_36 _ _ _) ?_
          show G 145 37 [some (.inr (.inr x0)), some (.inl x1), some (.inl x2), some (.inl x3)] [.inl x2, .inl (24 * x1), .inr (.inr x0)] H5 = _
          refine Eq.trans (e1 hG PT_145 k145_37 _ _ _) ?_
          show G 145 38 [some (.inr (.inr x0)), some (.inl x1), some (.inl x2), some (.inl x3)] [.inl ((24 * x1) + x2), .inr (.inr x0)] H5 = _
          refine Eq.trans (e1 hG PT_145 k145_38 _ _ _) ?_
          refine bfc ?_ ?_
          · refine bdc fun u8 => ?_
            refine bdc fun i9 => ?_
            show G 145 41 [some (.inr (.inr x0)), some (.inl x1), some (.inl x2), some (.inl x3)] [.inl i9] u8.2 = _
            refine Eq.trans (e1 hG PT_145 k145_41 _ _ _) ?_
            rfl
          · rfl
      · rfl
  · rfl
theorem b145_19 {G : AG} (hG : FIX G) (x0 : Nat) (x1 : Int32) (x2 : Int32) (x3 : Int32) (H : Hp) : G 145 19 [some (.inr (.inr x0)), some (.inl x1), some (.inl x2), some (.inl x3)] [] H = (some (some (.inl ((-1000001))), H)) := by
  refine Eq.trans (e1 hG PT_145 k145_19 _ _ _) ?_
  show G 145 21 [some (.inr (.inr x0)), some (.inl x1), some (.inl x2), some (.inl x3)] [.inl (-1000001)] H = _
  exact e1 hG PT_145 k145_21 _ _ _
theorem b145_50 {G : AG} (hG : FIX G) (x0 : Nat) (x1 : Int32) (x2 : Int32) (x3 : Int32) (s0 : Int32) (H : Hp) : G 145 50 [some (.inr (.inr x0)), some (.inl x1), some (.inl x2), some (.inl x3)] [.inl s0] H = (some (some (.inl s0), H)) := by
  exact e1 hG PT_145 k145_50 _ _ _
-- StepsAheadModel.size(I)I
theorem PT_146 : PT 146 = pt146 := rfl
theorem k146_0 : lkp pt146 0 = iP 1 (fAld 0) := rfl
theorem k146_1 : lkp pt146 1 = iRR 4 (gtR 52) := rfl
theorem k146_4 : lkp pt146 4 = iP 5 (fIld 1) := rfl
theorem k146_5 : lkp pt146 5 = iRI 6 qAI := rfl
theorem k146_6 : lkp pt146 6 = iP 7 (fIst 2) := rfl
theorem k146_7 : lkp pt146 7 = iP 8 (fIld 2) := rfl
theorem k146_8 : lkp pt146 8 = iP 9 (fK (.inl 1)) := rfl
theorem k146_9 : lkp pt146 9 = iB 12 25 (b2 (fun x y => decide (x ≠ y))) := rfl
theorem k146_12 : lkp pt146 12 = iP 13 (fAld 0) := rfl
theorem k146_13 : lkp pt146 13 = iP 15 (fK (.inl 13)) := rfl
theorem k146_15 : lkp pt146 15 = iCK 18 12 147 2 2 0 := rfl
theorem k146_18 : lkp pt146 18 = iP 19 (fAld 0) := rfl
theorem k146_19 : lkp pt146 19 = iRR 22 (gtR 53) := rfl
theorem k146_22 : lkp pt146 22 = iP 23 (fIld 1) := rfl
theorem k146_23 : lkp pt146 23 = iRI 24 qAI := rfl
theorem k146_24 : lkp pt146 24 = iRet rI := rfl
theorem k146_25 : lkp pt146 25 = iP 26 (fIld 2) := rfl
theorem k146_26 : lkp pt146 26 = iP 27 (fK (.inl 4)) := rfl
theorem k146_27 : lkp pt146 27 = iB 30 36 (b2 (fun x y => decide (x ≠ y))) := rfl
theorem k146_30 : lkp pt146 30 = iP 31 (fAld 0) := rfl
theorem k146_31 : lkp pt146 31 = iP 33 (fK (.inl 12)) := rfl
theorem k146_33 : lkp pt146 33 = iCK 36 12 147 2 2 0 := rfl
theorem k146_36 : lkp pt146 36 = iP 37 (fIld 2) := rfl
theorem k146_37 : lkp pt146 37 = iC 40 143 1 1 1 := rfl
theorem k146_40 : lkp pt146 40 = iB 43 49 (b1 (fun x => decide (x = 0))) := rfl
theorem k146_43 : lkp pt146 43 = iP 44 (fAld 0) := rfl
theorem k146_44 : lkp pt146 44 = iP 46 (fK (.inl 11)) := rfl
theorem k146_46 : lkp pt146 46 = iCK 49 12 147 2 2 0 := rfl
theorem k146_49 : lkp pt146 49 = iP 50 (fAld 0) := rfl
theorem k146_50 : lkp pt146 50 = iP 52 (fK (.inl 10)) := rfl
theorem k146_52 : lkp pt146 52 = iCK 55 12 147 2 2 0 := rfl
theorem k146_55 : lkp pt146 55 = iP 56 (fK (.inl 1)) := rfl
theorem k146_56 : lkp pt146 56 = iP 57 (fIld 2) := rfl
theorem k146_57 : lkp pt146 57 = iC 60 143 1 1 1 := rfl
theorem k146_60 : lkp pt146 60 = iB 63 72 (b1 (fun x => decide (x = 0))) := rfl
theorem k146_63 : lkp pt146 63 = iP 64 (fAld 0) := rfl
theorem k146_64 : lkp pt146 64 = iP 65 (fIld 1) := rfl
theorem k146_65 : lkp pt146 65 = iP 66 (fK (.inl 0)) := rfl
theorem k146_66 : lkp pt146 66 = iCK 69 12 148 5 3 1 := rfl
theorem k146_69 : lkp pt146 69 = iP 73 fGo := rfl
theorem k146_72 : lkp pt146 72 = iP 73 (fK (.inl 0)) := rfl
theorem k146_73 : lkp pt146 73 = iP 74 (f2I (fun x y => x + y)) := rfl
theorem k146_74 : lkp pt146 74 = iP 75 (fIld 2) := rfl
theorem k146_75 : lkp pt146 75 = iP 76 (fK (.inl 4)) := rfl
theorem k146_76 : lkp pt146 76 = iB 79 88 (b2 (fun x y => decide (x ≠ y))) := rfl
theorem k146_79 : lkp pt146 79 = iP 80 (fAld 0) := rfl
theorem k146_80 : lkp pt146 80 = iP 81 (fIld 1) := rfl
theorem k146_81 : lkp pt146 81 = iP 82 (fK (.inl 1)) := rfl
theorem k146_82 : lkp pt146 82 = iCK 85 12 148 5 3 1 := rfl
theorem k146_85 : lkp pt146 85 = iP 89 fGo := rfl
theorem k146_88 : lkp pt146 88 = iP 89 (fK (.inl 0)) := rfl
theorem k146_89 : lkp pt146 89 = iP 90 (f2I (fun x y => x + y)) := rfl
theorem k146_90 : lkp pt146 90 = iRet rI := rfl
theorem b146_0 {G : AG} (hG : FIX G) (x0 : Nat) (x1 : Int32) (H : Hp) : G 146 0 [some (.inr (.inr x0)), some (.inl x1), none] [] H = ((hgR H x0 52).bind fun r1 => (hAI H r1 x1).bind fun i2 => bif decide ((i2 : Int32) ≠ (1 : Int32)) then bif decide ((i2 : Int32) ≠ (4 : Int32)) then G 146 36 [some (.inr (.inr x0)), some (.inl x1), some (.inl i2)] [] H else bif Nat.beq (H.1 x0).1 12 then (G 147 0 [some (.inr (.inr x0)), some (.inl 12)] [] H).bind fun u3 => (asV u3.1).bind fun _ => G 146 36 [some (.inr (.inr x0)), some (.inl x1), some (.inl i2)] [] u3.2 else none else bif Nat.beq (H.1 x0).1 12 then (G 147 0 [some (.inr (.inr x0)), some (.inl 13)] [] H).bind fun u4 => (asV u4.1).bind fun _ => (hgR u4.2 x0 53).bind fun r5 => (hAI u4.2 r5 x1).bind fun i6 => some (some (.inl i6), u4.2) else none) := by
  refine Eq.trans (e1 hG PT_146 k146_0 _ _ _) ?_
  show G 146 1 [some (.inr (.inr x0)), some (.inl x1), none] [.inr (.inr x0)] H = _
  refine Eq.trans (e1 hG PT_146 k146_1 _ _ _) ?_
  refine bdc fun r1 => ?_
  show G 146 4 [some (.inr (.inr x0)), some (.inl x1), none] [.inr (.inr r1)] H = _
  refine Eq.trans (e1 hG PT_146 k146_4 _ _ _) ?_
  show G 146 5 [some (.inr (.inr x0)), some (.inl x1), none] [.inl x1, .inr (.inr r1)] H = _
  refine Eq.trans (e1 hG PT_146 k146_5 _ _ _) ?_
  refine bdc fun i2 => ?_
  show G 146 6 [some (.inr (.inr x0)), some (.inl x1), none] [.inl i2] H = _
  refine Eq.trans (e1 hG PT_146 k146_6 _ _ _) ?_
  show G 146 7 [some (.inr (.inr x0)), some (.inl x1), some (.inl i2)] [] H = _
  refine Eq.trans (e1 hG PT_146 k146_7 _ _ _) ?_
  show G 146 8 [some (.inr (.inr x0)), some (.inl x1), some (.inl i2)] [.inl i2] H = _
  refine Eq.trans (e1 hG PT_146 k146_8 _ _ _) ?_
  show G 146 9 [some (.inr (.inr x0)), some (.inl x1), some (.inl i2)] [.inl 1, .inl i2] H = _
  refine Eq.trans (e1 hG PT_146 k146_9 _ _ _) ?_
  refine bfc ?_ ?_
  · show G 146 25 [some (.inr (.inr x0)), some (.inl x1), some (.inl i2)] [] H = _
    refine Eq.trans (e1 hG PT_146 k146_25 _ _ _) ?_
    show G 146 26 [some (.inr (.inr x0)), some (.inl x1), some (.inl i2)] [.inl i2] H = _
    refine Eq.trans (e1 hG PT_146 k146_26 _ _ _) ?_
    show G 146 27 [some (.inr (.inr x0)), some (.inl x1), some (.inl i2)] [.inl 4, .inl i2] H = _
    refine Eq.trans (e1 hG PT_146 k146_27 _ _ _) ?_
    refine bfc ?_ ?_
    · rfl
    · show G 146 30 [some (.inr (.inr x0)), some (.inl x1), some (.inl i2)] [] H = _
      refine Eq.trans (e1 hG PT_146 k146_30 _ _ _) ?_
      show G 146 31 [some (.inr (.inr x0)), some (.inl x1), some (.inl i2)] [.inr (.inr x0)] H = _
      refine Eq.trans (e1 hG PT_146 k146_31 _ _ _) ?_
      show G 146 33 [some (.inr (.inr x0)), some (.inl x1), some (.inl i2)] [.inl 12, .inr (.inr x0)] H = _
      refine Eq.trans (e1 hG PT_146 k146_33 _ _ _) ?_
      refine bfc ?_ ?_
      · refine bdc fun u3 => ?_
        refine bdc fun _ => ?_
        rfl
      · rfl
  · show G 146 12 [some (.inr (.inr x0)), some (.inl x1), some (.inl i2)] [] H = _
    refine Eq.trans (e1 hG PT_146 k146_12 _ _ _) ?_
    show G 146 13 [some (.inr (.inr x0)), some (.inl x1), some (.inl i2)] [.inr (.inr x0)] H = _
    refine Eq.trans (e1 hG PT_146 k146_13 _ _ _) ?_
    show G 146 15 [some (.inr (.inr x0)), some (.inl x1), some (.inl i2)] [.inl 13, .inr (.inr x0)] H = _
    refine Eq.trans (e1 hG PT_146 k146_15 _ _ _) ?_
    refine bfc ?_ ?_
    · refine bdc fun u4 => ?_
      refine bdc fun _ => ?_
      show G 146 18 [some (.inr (.inr x0)), some (.inl x1), some (.inl i2)] [] u4.2 = _
      refine Eq.trans (e1 hG PT_146 k146_18 _ _ _) ?_
      show G 146 19 [some (.inr (.inr x0)), some (.inl x1), some (.inl i2)] [.inr (.inr x0)] u4.2 = _
      refine Eq.trans (e1 hG PT_146 k146_19 _ _ _) ?_
      refine bdc fun r5 => ?_
      show G 146 22 [some (.inr (.inr x0)), some (.inl x1), some (.inl i2)] [.inr (.inr r5)] u4.2 = _
      refine Eq.trans (e1 hG PT_146 k146_22 _ _ _) ?_
      show G 146 23 [some (.inr (.inr x0)), some (.inl x1), some (.inl i2)] [.inl x1, .inr (.inr r5)] u4.2 = _
      refine Eq.trans (e1 hG PT_146 k146_23 _ _ _) ?_
      refine bdc fun i6 => ?_
      show G 146 24 [some (.inr (.inr x0)), some (.inl x1), some (.inl i2)] [.inl i6] u4.2 = _
      exact e1 hG PT_146 k146_24 _ _ _
    · rfl
theorem b146_36 {G : AG} (hG : FIX G) (x0 : Nat) (x1 : Int32) (x2 : Int32) (H : Hp) : G 146 36 [some (.inr (.inr x0)), some (.inl x1), some (.inl x2)] [] H = ((G 143 0 [some (.inl x2)] [] H).bind fun u1 => (asI u1.1).bind fun i2 => bif decide ((i2 : Int32) = 0) then G 146 49 [some (.inr (.inr x0)), some (.inl x1), some (.inl x2)] [] u1.2 else bif Nat.beq (u1.2.1 x0).1 12 then (G 147 0 [some (.inr (.inr x0)), some (.inl 11)] [] u1.2).bind fun u3 => (asV u3.1).bind fun _ => G 146 49 [some (.inr (.inr x0)), some (.inl x1), some (.inl x2)] [] u3.2 else none) := by
  refine Eq.trans (e1 hG PT_146 k146_36 _ _ _) ?_
  show G 146 37 [some (.inr (.inr x0)), some (.inl x1), some (.inl x2)] [.inl x2] H = _
  refine Eq.trans (e1 hG PT_146 k146_37 _ _ _) ?_
  refine bdc fun u1 => ?_
  refine bdc fun i2 => ?_
  show G 146 40 [some (.inr (.inr x0)), some (.inl x1), some (.inl x2)] [.inl i2] u1.2 = _
  refine Eq.trans (e1 hG PT_146 k146_40 _ _ _) ?_
  refine bfc ?_ ?_
  · rfl
  · show G 146 43 [some (.inr (.inr x0)), some (.inl x1), some (.inl x2)] [] u1.2 = _
    refine Eq.trans (e1 hG PT_146 k146_43 _ _ _) ?_
    show G 146 44 [some (.inr (.inr x0)), some (.inl x1), some (.inl x2)] [.inr (.inr x0)] u1.2 = _
    refine Eq.trans (e1 hG PT_146 k146_44 _ _ _) ?_
    show G 146 46 [some (.inr (.inr x0)), some (.inl x1), some (.inl x2)] [.inl 11, .inr (.inr x0)] u1.2 = _
    refine Eq.trans (e1 hG PT_146 k146_46 _ _ _) ?_
    refine bfc ?_ ?_
    · refine bdc fun u3 => ?_
      refine bdc fun _ => ?_
      rfl
    · rfl
theorem b146_49 {G : AG} (hG : FIX G) (x0 : Nat) (x1 : Int32) (x2 : Int32) (H : Hp) : G 146 49 [some (.inr (.inr x0)), some (.inl x1), some (.inl x2)] [] H = (bif Nat.beq (H.1 x0).1 12 then (G 147 0 [some (.inr (.inr x0)), some (.inl 10)] [] H).bind fun u1 => (asV u1.1).bind fun _ => (G 143 0 [some (.inl x2)] [] u1.2).bind fun u2 => (asI u2.1).bind fun i3 => bif decide ((i3 : Int32) = 0) then G 146 73 [some (.inr (.inr x0)), some (.inl x1), some (.inl x2)] [.inl 0, .inl 1] u2.2 else bif Nat.beq (u2.2.1 x0).1 12 then (G 148 0 [some (.inr (.inr x0)), some (.inl x1), some (.inl 0), none, none] [] u2.2).bind fun u4 => (asI u4.1).bind fun i5 => G 146 73 [some (.inr (.inr x0)), some (.inl x1), some (.inl x2)] [.inl i5, .inl 1] u4.2 else none else none) := by
  refine Eq.trans (e1 hG PT_146 k146_49 _ _ _) ?_
  show G 146 50 [some (.inr (.inr x0)), some (.inl x1), some (.inl x2)] [.inr (.inr x0)] H = _
  refine Eq.trans (e1 hG PT_146 k146_50 _ _ _) ?_
  show G 146 52 [some (.inr (.inr x0)), some (.inl x1), some (.inl x2)] [.inl 10, .inr (.inr x0)] H = _
  refine Eq.trans (e1 hG PT_146 k146_52 _ _ _) ?_
  refine bfc ?_ ?_
  · refine bdc fun u1 => ?_
    refine bdc fun _ => ?_
    show G 146 55 [some (.inr (.inr x0)), some (.inl x1), some (.inl x2)] [] u1.2 = _
    refine Eq.trans (e1 hG PT_146 k146_55 _ _ _) ?_
    show G 146 56 [some (.inr (.inr x0)), some (.inl x1), some (.inl x2)] [.inl 1] u1.2 = _
    refine Eq.trans (e1 hG PT_146 k146_56 _ _ _) ?_
    show G 146 57 [some (.inr (.inr x0)), some (.inl x1), some (.inl x2)] [.inl x2, .inl 1] u1.2 = _
    refine Eq.trans (e1 hG PT_146 k146_57 _ _ _) ?_
    refine bdc fun u2 => ?_
    refine bdc fun i3 => ?_
    show G 146 60 [some (.inr (.inr x0)), some (.inl x1), some (.inl x2)] [.inl i3, .inl 1] u2.2 = _
    refine Eq.trans (e1 hG PT_146 k146_60 _ _ _) ?_
    refine bfc ?_ ?_
    · show G 146 72 [some (.inr (.inr x0)), some (.inl x1), some (.inl x2)] [.inl 1] u2.2 = _
      refine Eq.trans (e1 hG PT_146 k146_72 _ _ _) ?_
      rfl
    · show G 146 63 [some (.inr (.inr x0)), some (.inl x1), some (.inl x2)] [.inl 1] u2.2 = _
      refine Eq.trans (e1 hG PT_146 k146_63 _ _ _) ?_
      show G 146 64 [some (.inr (.inr x0)), some (.inl x1), some (.inl x2)] [.inr (.inr x0), .inl 1] u2.2 = _
      refine Eq.trans (e1 hG PT_146 k146_64 _ _ _) ?_
      show G 146 65 [some (.inr (.inr x0)), some (.inl x1), some (.inl x2)] [.inl x1, .inr (.inr x0), .inl 1] u2.2 = _
      refine Eq.trans (e1 hG PT_146 k146_65 _ _ _) ?_
      show G 146 66 [some (.inr (.inr x0)), some (.inl x1), some (.inl x2)] [.inl 0, .inl x1, .inr (.inr x0), .inl 1] u2.2 = _
      refine Eq.trans (e1 hG PT_146 k146_66 _ _ _) ?_
      refine bfc ?_ ?_
      · refine bdc fun u4 => ?_
        refine bdc fun i5 => ?_
        show G 146 69 [some (.inr (.inr x0)), some (.inl x1), some (.inl x2)] [.inl i5, .inl 1] u4.2 = _
        refine Eq.trans (e1 hG PT_146 k146_69 _ _ _) ?_
        rfl
      · rfl
  · rfl
theorem b146_73 {G : AG} (hG : FIX G) (x0 : Nat) (x1 : Int32) (x2 : Int32) (s0 : Int32) (s1 : Int32) (H : Hp) : G 146 73 [some (.inr (.inr x0)), some (.inl x1), some (.inl x2)] [.inl s0, .inl s1] H = (bif decide ((x2 : Int32) ≠ (4 : Int32)) then G 146 89 [some (.inr (.inr x0)), some (.inl x1), some (.inl x2)] [.inl 0, .inl (s1 + s0)] H else bif Nat.beq (H.1 x0).1 12 then (G 148 0 [some (.inr (.inr x0)), some (.inl x1), some (.inl 1), none, none] [] H).bind fun u1 => (asI u1.1).bind fun i2 => G 146 89 [some (.inr (.inr x0)), some (.inl x1), some (.inl x2)] [.inl i2, .inl (s1 + s0)] u1.2 else none) := by
  refine Eq.trans (e1 hG PT_146 k146_73 _ _ _) ?_
  show G 146 74 [some (.inr (.inr x0)), some (.inl x1), some (.inl x2)] [.inl (s1 + s0)] H = _
  refine Eq.trans (e1 hG PT_146 k146_74 _ _ _) ?_
  show G 146 75 [some (.inr (.inr x0)), some (.inl x1), some (.inl x2)] [.inl x2, .inl (s1 + s0)] H = _
  refine Eq.trans (e1 hG PT_146 k146_75 _ _ _) ?_
  show G 146 76 [some (.inr (.inr x0)), some (.inl x1), some (.inl x2)] [.inl 4, .inl x2, .inl (s1 + s0)] H = _
  refine Eq.trans (e1 hG PT_146 k146_76 _ _ _) ?_
  refine bfc ?_ ?_
  · show G 146 88 [some (.inr (.inr x0)), some (.inl x1), some (.inl x2)] [.inl (s1 + s0)] H = _
    refine Eq.trans (e1 hG PT_146 k146_88 _ _ _) ?_
    rfl
  · show G 146 79 [some (.inr (.inr x0)), some (.inl x1), some (.inl x2)] [.inl (s1 + s0)] H = _
    refine Eq.trans (e1 hG PT_146 k146_79 _ _ _) ?_
    show G 146 80 [some (.inr (.inr x0)), some (.inl x1), some (.inl x2)] [.inr (.inr x0), .inl (s1 + s0)] H = _
    refine Eq.trans (e1 hG PT_146 k146_80 _ _ _) ?_
    show G 146 81 [some (.inr (.inr x0)), some (.inl x1), some (.inl x2)] [.inl x1, .inr (.inr x0), .inl (s1 + s0)] H = _
    refine Eq.trans (e1 hG PT_146 k146_81 _ _ _) ?_
    show G 146 82 [some (.inr (.inr x0)), some (.inl x1), some (.inl x2)] [.inl 1, .inl x1, .inr (.inr x0), .inl (s1 + s0)] H = _
    refine Eq.trans (e1 hG PT_146 k146_82 _ _ _) ?_
    refine bfc ?_ ?_
    · refine bdc fun u1 => ?_
      refine bdc fun i2 => ?_
      show G 146 85 [some (.inr (.inr x0)), some (.inl x1), some (.inl x2)] [.inl i2, .inl (s1 + s0)] u1.2 = _
      refine Eq.trans (e1 hG PT_146 k146_85 _ _ _) ?_
      rfl
    · rfl
theorem b146_89 {G : AG} (hG : FIX G) (x0 : Nat) (x1 : Int32) (x2 : Int32) (s0 : Int32) (s1 : Int32) (H : Hp) : G 146 89 [some (.inr (.inr x0)), some (.inl x1), some (.inl x2)] [.inl s0, .inl s1] H = (some (some (.inl ((s1 + s0))), H)) := by
  refine Eq.trans (e1 hG PT_146 k146_89 _ _ _) ?_
  show G 146 90 [some (.inr (.inr x0)), some (.inl x1), some (.inl x2)] [.inl (s1 + s0)] H = _
  exact e1 hG PT_146 k146_90 _ _ _
-- StepsAheadModel.begins(I)V
theorem PT_147 : PT 147 = pt147 := rfl
theorem k147_0 : lkp pt147 0 = iP 1 (fAld 0) := rfl
theorem k147_1 : lkp pt147 1 = iRI 4 (gtI 59) := rfl
theorem k147_4 : lkp pt147 4 = iP 6 (fK (.inl 16)) := rfl
theorem k147_6 : lkp pt147 6 = iB 9 29 (b2 (fun x y => decide (y ≤ x))) := rfl
theorem k147_9 : lkp pt147 9 = iP 10 (fAld 0) := rfl
theorem k147_10 : lkp pt147 10 = iRR 13 (gtR 58) := rfl
theorem k147_13 : lkp pt147 13 = iP 14 (fAld 0) := rfl
theorem k147_14 : lkp pt147 14 = iRI 17 (gtI 59) := rfl
theorem k147_17 : lkp pt147 17 = iP 18 (fIld 1) := rfl
theorem k147_18 : lkp pt147 18 = iW 19 wAI := rfl
theorem k147_19 : lkp pt147 19 = iP 20 (fAld 0) := rfl
theorem k147_20 : lkp pt147 20 = iP 21 fDup := rfl
theorem k147_21 : lkp pt147 21 = iRI 24 (gtI 59) := rfl
theorem k147_24 : lkp pt147 24 = iP 25 (fK (.inl 1)) := rfl
theorem k147_25 : lkp pt147 25 = iP 26 (f2I (fun x y => x + y)) := rfl
theorem k147_26 : lkp pt147 26 = iW 29 (ptI 59) := rfl
theorem k147_29 : lkp pt147 29 = iRet rV := rfl
theorem b147_0 {G : AG} (hG : FIX G) (x0 : Nat) (x1 : Int32) (H : Hp) : G 147 0 [some (.inr (.inr x0)), some (.inl x1)] [] H = ((hgI H x0 59).bind fun i1 => bif decide ((16 : Int32) ≤ (i1 : Int32)) then G 147 29 [some (.inr (.inr x0)), some (.inl x1)] [] H else (hgR H x0 58).bind fun r2 => (hgI H x0 59).bind fun i3 => (hSI H r2 i3 x1).bind fun H4 => (hgI H4 x0 59).bind fun i5 => (hpI H4 x0 59 ((i5 + 1))).bind fun H6 => G 147 29 [some (.inr (.inr x0)), some (.inl x1)] [] H6) := by
  refine Eq.trans (e1 hG PT_147 k147_0 _ _ _) ?_
  show G 147 1 [some (.inr (.inr x0)), some (.inl x1)] [.inr (.inr x0)] H = _
  refine Eq.trans (e1 hG PT_147 k147_1 _ _ _) ?_
  refine bdc fun i1 => ?_
  show G 147 4 [some (.inr (.inr x0)), some (.inl x1)] [.inl i1] H = _
  refine Eq.trans (e1 hG PT_147 k147_4 _ _ _) ?_
  show G 147 6 [some (.inr (.inr x0)), some (.inl x1)] [.inl 16, .inl i1] H = _
  refine Eq.trans (e1 hG PT_147 k147_6 _ _ _) ?_
  refine bfc ?_ ?_
  · rfl
  · show G 147 9 [some (.inr (.inr x0)), some (.inl x1)] [] H = _
    refine Eq.trans (e1 hG PT_147 k147_9 _ _ _) ?_
    show G 147 10 [some (.inr (.inr x0)), some (.inl x1)] [.inr (.inr x0)] H = _
    refine Eq.trans (e1 hG PT_147 k147_10 _ _ _) ?_
    refine bdc fun r2 => ?_
    show G 147 13 [some (.inr (.inr x0)), some (.inl x1)] [.inr (.inr r2)] H = _
    refine Eq.trans (e1 hG PT_147 k147_13 _ _ _) ?_
    show G 147 14 [some (.inr (.inr x0)), some (.inl x1)] [.inr (.inr x0), .inr (.inr r2)] H = _
    refine Eq.trans (e1 hG PT_147 k147_14 _ _ _) ?_
    refine bdc fun i3 => ?_
    show G 147 17 [some (.inr (.inr x0)), some (.inl x1)] [.inl i3, .inr (.inr r2)] H = _
    refine Eq.trans (e1 hG PT_147 k147_17 _ _ _) ?_
    show G 147 18 [some (.inr (.inr x0)), some (.inl x1)] [.inl x1, .inl i3, .inr (.inr r2)] H = _
    refine Eq.trans (e1 hG PT_147 k147_18 _ _ _) ?_
    refine bdc fun H4 => ?_
    show G 147 19 [some (.inr (.inr x0)), some (.inl x1)] [] H4 = _
    refine Eq.trans (e1 hG PT_147 k147_19 _ _ _) ?_
    show G 147 20 [some (.inr (.inr x0)), some (.inl x1)] [.inr (.inr x0)] H4 = _
    refine Eq.trans (e1 hG PT_147 k147_20 _ _ _) ?_
    show G 147 21 [some (.inr (.inr x0)), some (.inl x1)] [.inr (.inr x0), .inr (.inr x0)] H4 = _
    refine Eq.trans (e1 hG PT_147 k147_21 _ _ _) ?_
    refine bdc fun i5 => ?_
    show G 147 24 [some (.inr (.inr x0)), some (.inl x1)] [.inl i5, .inr (.inr x0)] H4 = _
    refine Eq.trans (e1 hG PT_147 k147_24 _ _ _) ?_
    show G 147 25 [some (.inr (.inr x0)), some (.inl x1)] [.inl 1, .inl i5, .inr (.inr x0)] H4 = _
    refine Eq.trans (e1 hG PT_147 k147_25 _ _ _) ?_
    show G 147 26 [some (.inr (.inr x0)), some (.inl x1)] [.inl (i5 + 1), .inr (.inr x0)] H4 = _
    refine Eq.trans (e1 hG PT_147 k147_26 _ _ _) ?_
    refine bdc fun H6 => ?_
    rfl
theorem b147_29 {G : AG} (hG : FIX G) (x0 : Nat) (x1 : Int32) (H : Hp) : G 147 29 [some (.inr (.inr x0)), some (.inl x1)] [] H = (some (none, H)) := by
  exact e1 hG PT_147 k147_29 _ _ _
-- StepsAheadModel.notZero(II)I
theorem PT_148 : PT 148 = pt148 := rfl
theorem k148_0 : lkp pt148 0 = iP 1 (fK (.inl 0)) := rfl
theorem k148_1 : lkp pt148 1 = iP 2 (fIst 3) := rfl
theorem k148_2 : lkp pt148 2 = iP 3 (fK (.inl 0)) := rfl
theorem k148_3 : lkp pt148 3 = iP 5 (fIst 4) := rfl
theorem k148_5 : lkp pt148 5 = iP 7 (fIld 4) := rfl
theorem k148_7 : lkp pt148 7 = iP 9 (fK (.inl 6)) := rfl
theorem k148_9 : lkp pt148 9 = iB 12 46 (b2 (fun x y => decide (y ≤ x))) := rfl
theorem k148_12 : lkp pt148 12 = iP 13 (fIld 3) := rfl
theorem k148_13 : lkp pt148 13 = iP 14 (fAld 0) := rfl
theorem k148_14 : lkp pt148 14 = iRR 17 (gtR 55) := rfl
theorem k148_17 : lkp pt148 17 = iP 19 (fK (.inl 12)) := rfl
theorem k148_19 : lkp pt148 19 = iP 20 (fIld 1) := rfl
theorem k148_20 : lkp pt148 20 = iP 21 (f2I (fun x y => x * y)) := rfl
theorem k148_21 : lkp pt148 21 = iP 23 (fK (.inl 6)) := rfl
theorem k148_23 : lkp pt148 23 = iP 24 (fIld 2) := rfl
theorem k148_24 : lkp pt148 24 = iP 25 (f2I (fun x y => x * y)) := rfl
theorem k148_25 : lkp pt148 25 = iP 26 (f2I (fun x y => x + y)) := rfl
theorem k148_26 : lkp pt148 26 = iP 28 (fIld 4) := rfl
theorem k148_28 : lkp pt148 28 = iP 29 (f2I (fun x y => x + y)) := rfl
theorem k148_29 : lkp pt148 29 = iRI 30 qAI := rfl
theorem k148_30 : lkp pt148 30 = iB 33 37 (b1 (fun x => decide (x = 0))) := rfl
theorem k148_33 : lkp pt148 33 = iP 34 (fK (.inl 1)) := rfl
theorem k148_34 : lkp pt148 34 = iP 38 fGo := rfl
theorem k148_37 : lkp pt148 37 = iP 38 (fK (.inl 0)) := rfl
theorem k148_38 : lkp pt148 38 = iP 39 (f2I (fun x y => x + y)) := rfl
theorem k148_39 : lkp pt148 39 = iP 40 (fIst 3) := rfl
theorem k148_40 : lkp pt148 40 = iP 43 (fInc 4 1) := rfl
theorem k148_43 : lkp pt148 43 = iP 5 fGo := rfl
theorem k148_46 : lkp pt148 46 = iP 47 (fIld 3) := rfl
theorem k148_47 : lkp pt148 47 = iRet rI := rfl
theorem b148_0 {G : AG} (hG : FIX G) (x0 : Nat) (x1 : Int32) (x2 : Int32) (H : Hp) : G 148 0 [some (.inr (.inr x0)), some (.inl x1), some (.inl x2), none, none] [] H = (G 148 5 [some (.inr (.inr x0)), some (.inl x1), some (.inl x2), some (.inl 0), some (.inl 0)] [] H) := by
  refine Eq.trans (e1 hG PT_148 k148_0 _ _ _) ?_
  show G 148 1 [some (.inr (.inr x0)), some (.inl x1), some (.inl x2), none, none] [.inl 0] H = _
  refine Eq.trans (e1 hG PT_148 k148_1 _ _ _) ?_
  show G 148 2 [some (.inr (.inr x0)), some (.inl x1), some (.inl x2), some (.inl 0), none] [] H = _
  refine Eq.trans (e1 hG PT_148 k148_2 _ _ _) ?_
  show G 148 3 [some (.inr (.inr x0)), some (.inl x1), some (.inl x2), some (.inl 0), none] [.inl 0] H = _
  refine Eq.trans (e1 hG PT_148 k148_3 _ _ _) ?_
  rfl
theorem b148_5 {G : AG} (hG : FIX G) (x0 : Nat) (x1 : Int32) (x2 : Int32) (x3 : Int32) (x4 : Int32) (H : Hp) : G 148 5 [some (.inr (.inr x0)), some (.inl x1), some (.inl x2), some (.inl x3), some (.inl x4)] [] H = (bif decide ((6 : Int32) ≤ (x4 : Int32)) then some (some (.inl x3), H) else (hgR H x0 55).bind fun r1 => (hAI H r1 ((((12 * x1) + (6 * x2)) + x4))).bind fun i2 => bif decide ((i2 : Int32) = 0) then G 148 38 [some (.inr (.inr x0)), some (.inl x1), some (.inl x2), some (.inl x3), some (.inl x4)] [.inl 0, .inl x3] H else G 148 38 [some (.inr (.inr x0)), some (.inl x1), some (.inl x2), some (.inl x3), some (.inl x4)] [.inl 1, .inl x3] H) := by
  refine Eq.trans (e1 hG PT_148 k148_5 _ _ _) ?_
  show G 148 7 [some (.inr (.inr x0)), some (.inl x1), some (.inl x2), some (.inl x3), some (.inl x4)] [.inl x4] H = _
  refine Eq.trans (e1 hG PT_148 k148_7 _ _ _) ?_
  show G 148 9 [some (.inr (.inr x0)), some (.inl x1), some (.inl x2), some (.inl x3), some (.inl x4)] [.inl 6, .inl x4] H = _
  refine Eq.trans (e1 hG PT_148 k148_9 _ _ _) ?_
  refine bfc ?_ ?_
  · show G 148 46 [some (.inr (.inr x0)), some (.inl x1), some (.inl x2), some (.inl x3), some (.inl x4)] [] H = _
    refine Eq.trans (e1 hG PT_148 k148_46 _ _ _) ?_
    show G 148 47 [some (.inr (.inr x0)), some (.inl x1), some (.inl x2), some (.inl x3), some (.inl x4)] [.inl x3] H = _
    exact e1 hG PT_148 k148_47 _ _ _
  · show G 148 12 [some (.inr (.inr x0)), some (.inl x1), some (.inl x2), some (.inl x3), some (.inl x4)] [] H = _
    refine Eq.trans (e1 hG PT_148 k148_12 _ _ _) ?_
    show G 148 13 [some (.inr (.inr x0)), some (.inl x1), some (.inl x2), some (.inl x3), some (.inl x4)] [.inl x3] H = _
    refine Eq.trans (e1 hG PT_148 k148_13 _ _ _) ?_
    show G 148 14 [some (.inr (.inr x0)), some (.inl x1), some (.inl x2), some (.inl x3), some (.inl x4)] [.inr (.inr x0), .inl x3] H = _
    refine Eq.trans (e1 hG PT_148 k148_14 _ _ _) ?_
    refine bdc fun r1 => ?_
    show G 148 17 [some (.inr (.inr x0)), some (.inl x1), some (.inl x2), some (.inl x3), some (.inl x4)] [.inr (.inr r1), .inl x3] H = _
    refine Eq.trans (e1 hG PT_148 k148_17 _ _ _) ?_
    show G 148 19 [some (.inr (.inr x0)), some (.inl x1), some (.inl x2), some (.inl x3), some (.inl x4)] [.inl 12, .inr (.inr r1), .inl x3] H = _
    refine Eq.trans (e1 hG PT_148 k148_19 _ _ _) ?_
    show G 148 20 [some (.inr (.inr x0)), some (.inl x1), some (.inl x2), some (.inl x3), some (.inl x4)] [.inl x1, .inl 12, .inr (.inr r1), .inl x3] H = _
    refine Eq.trans (e1 hG PT_148 k148_20 _ _ _) ?_
    show G 148 21 [some (.inr (.inr x0)), some (.inl x1), some (.inl x2), some (.inl x3), some (.inl x4)] [.inl (12 * x1), .inr (.inr r1), .inl x3] H = _
    refine Eq.trans (e1 hG PT_148 k148_21 _ _ _) ?_
    show G 148 23 [some (.inr (.inr x0)), some (.inl x1), some (.inl x2), some (.inl x3), some (.inl x4)] [.inl 6, .inl (12 * x1), .inr (.inr r1), .inl x3] H = _
    refine Eq.trans (e1 hG PT_148 k148_23 _ _ _) ?_
    show G 148 24 [some (.inr (.inr x0)), some (.inl x1), some (.inl x2), some (.inl x3), some (.inl x4)] [.inl x2, .inl 6, .inl (12 * x1), .inr (.inr r1), .inl x3] H = _
    refine Eq.trans (e1 hG PT_148 k148_24 _ _ _) ?_
    show G 148 25 [some (.inr (.inr x0)), some (.inl x1), some (.inl x2), some (.inl x3), some (.inl x4)] [.inl (6 * x2), .inl (12 * x1), .inr (.inr r1), .inl x3] H = _
    refine Eq.trans (e1 hG PT_148 k148_25 _ _ _) ?_
    show G 148 26 [some (.inr (.inr x0)), some (.inl x1), some (.inl x2), some (.inl x3), some (.inl x4)] [.inl ((12 * x1) + (6 * x2)), .inr (.inr r1), .inl x3] H = _
    refine Eq.trans (e1 hG PT_148 k148_26 _ _ _) ?_
    show G 148 28 [some (.inr (.inr x0)), some (.inl x1), some (.inl x2), some (.inl x3), some (.inl x4)] [.inl x4, .inl ((12 * x1) + (6 * x2)), .inr (.inr r1), .inl x3] H = _
    refine Eq.trans (e1 hG PT_148 k148_28 _ _ _) ?_
    show G 148 29 [some (.inr (.inr x0)), some (.inl x1), some (.inl x2), some (.inl x3), some (.inl x4)] [.inl (((12 * x1) + (6 * x2)) + x4), .inr (.inr r1), .inl x3] H = _
    refine Eq.trans (e1 hG PT_148 k148_29 _ _ _) ?_
    refine bdc fun i2 => ?_
    show G 148 30 [some (.inr (.inr x0)), some (.inl x1), some (.inl x2), some (.inl x3), some (.inl x4)] [.inl i2, .inl x3] H = _
    refine Eq.trans (e1 hG PT_148 k148_30 _ _ _) ?_
    refine bfc ?_ ?_
    · show G 148 37 [some (.inr (.inr x0)), some (.inl x1), some (.inl x2), some (.inl x3), some (.inl x4)] [.inl x3] H = _
      refine Eq.trans (e1 hG PT_148 k148_37 _ _ _) ?_
      rfl
    · show G 148 33 [some (.inr (.inr x0)), some (.inl x1), some (.inl x2), some (.inl x3), some (.inl x4)] [.inl x3] H = _
      refine Eq.trans (e1 hG PT_148 k148_33 _ _ _) ?_
      show G 148 34 [some (.inr (.inr x0)), some (.inl x1), some (.inl x2), some (.inl x3), some (.inl x4)] [.inl 1, .inl x3] H = _
      refine Eq.trans (e1 hG PT_148 k148_34 _ _ _) ?_
      rfl
theorem b148_38 {G : AG} (hG : FIX G) (x0 : Nat) (x1 : Int32) (x2 : Int32) (x3 : Int32) (x4 : Int32) (s0 : Int32) (s1 : Int32) (H : Hp) : G 148 38 [some (.inr (.inr x0)), some (.inl x1), some (.inl x2), some (.inl x3), some (.inl x4)] [.inl s0, .inl s1] H = (G 148 5 [some (.inr (.inr x0)), some (.inl x1), some (.inl x2), some (.inl (s1 + s0)), some (.inl (x4 + 1))] [] H) := by
  refine Eq.trans (e1 hG PT_148 k148_38 _ _ _) ?_
  show G 148 39 [some (.inr (.inr x0)), some (.inl x1), some (.inl x2), some (.inl x3), some (.inl x4)] [.inl (s1 + s0)] H = _
  refine Eq.trans (e1 hG PT_148 k148_39 _ _ _) ?_
  show G 148 40 [some (.inr (.inr x0)), some (.inl x1), some (.inl x2), some (.inl (s1 + s0)), some (.inl x4)] [] H = _
  refine Eq.trans (e1 hG PT_148 k148_40 _ _ _) ?_
  show G 148 43 [some (.inr (.inr x0)), some (.inl x1), some (.inl x2), some (.inl (s1 + s0)), some (.inl (x4 + 1))] [] H = _
  refine Eq.trans (e1 hG PT_148 k148_43 _ _ _) ?_
  rfl
-- StepsAheadModel.mark(II)I
theorem PT_149 : PT 149 = pt149 := rfl
theorem k149_0 : lkp pt149 0 = iP 2 (fK (.inl 24)) := rfl
theorem k149_2 : lkp pt149 2 = iP 3 (fIld 1) := rfl
theorem k149_3 : lkp pt149 3 = iP 4 (f2I (fun x y => x * y)) := rfl
theorem k149_4 : lkp pt149 4 = iP 5 (fIld 2) := rfl
theorem k149_5 : lkp pt149 5 = iP 6 (f2I (fun x y => x + y)) := rfl
theorem k149_6 : lkp pt149 6 = iP 7 (fIst 3) := rfl
theorem k149_7 : lkp pt149 7 = iP 8 (fAld 0) := rfl
theorem k149_8 : lkp pt149 8 = iRR 11 (gtR 52) := rfl
theorem k149_11 : lkp pt149 11 = iP 12 (fIld 3) := rfl
theorem k149_12 : lkp pt149 12 = iRI 13 qAI := rfl
theorem k149_13 : lkp pt149 13 = iP 15 (fIst 4) := rfl
theorem k149_15 : lkp pt149 15 = iP 17 (fIld 4) := rfl
theorem k149_17 : lkp pt149 17 = iP 18 (fK (.inl 4)) := rfl
theorem k149_18 : lkp pt149 18 = iB 21 34 (b2 (fun x y => decide (x ≠ y))) := rfl
theorem k149_21 : lkp pt149 21 = iP 22 (fAld 0) := rfl
theorem k149_22 : lkp pt149 22 = iP 24 (fK (.inl 23)) := rfl
theorem k149_24 : lkp pt149 24 = iCK 27 12 147 2 2 0 := rfl
theorem k149_27 : lkp pt149 27 = iP 28 (fAld 0) := rfl
theorem k149_28 : lkp pt149 28 = iRR 31 (gtR 54) := rfl
theorem k149_31 : lkp pt149 31 = iP 32 (fIld 3) := rfl
theorem k149_32 : lkp pt149 32 = iRI 33 qAI := rfl
theorem k149_33 : lkp pt149 33 = iRet rI := rfl
theorem k149_34 : lkp pt149 34 = iP 36 (fIld 4) := rfl
theorem k149_36 : lkp pt149 36 = iP 37 (fK (.inl 5)) := rfl
theorem k149_37 : lkp pt149 37 = iB 40 46 (b2 (fun x y => decide (x ≠ y))) := rfl
theorem k149_40 : lkp pt149 40 = iP 41 (fAld 0) := rfl
theorem k149_41 : lkp pt149 41 = iP 43 (fK (.inl 24)) := rfl
theorem k149_43 : lkp pt149 43 = iCK 46 12 147 2 2 0 := rfl
theorem k149_46 : lkp pt149 46 = iP 48 (fIld 4) := rfl
theorem k149_48 : lkp pt149 48 = iP 49 (fK (.inl 3)) := rfl
theorem k149_49 : lkp pt149 49 = iB 52 64 (b2 (fun x y => decide (x ≠ y))) := rfl
theorem k149_52 : lkp pt149 52 = iP 53 (fAld 0) := rfl
theorem k149_53 : lkp pt149 53 = iP 55 (fK (.inl 22)) := rfl
theorem k149_55 : lkp pt149 55 = iCK 58 12 147 2 2 0 := rfl
theorem k149_58 : lkp pt149 58 = iP 59 (fAld 0) := rfl
theorem k149_59 : lkp pt149 59 = iP 61 (fK (.inl 21)) := rfl
theorem k149_61 : lkp pt149 61 = iCK 64 12 147 2 2 0 := rfl
theorem k149_64 : lkp pt149 64 = iP 65 (fAld 0) := rfl
theorem k149_65 : lkp pt149 65 = iP 67 (fK (.inl 20)) := rfl
theorem k149_67 : lkp pt149 67 = iCK 70 12 147 2 2 0 := rfl
theorem k149_70 : lkp pt149 70 = iP 72 (fIld 4) := rfl
theorem k149_72 : lkp pt149 72 = iP 73 (fK (.inl 3)) := rfl
theorem k149_73 : lkp pt149 73 = iB 76 97 (b2 (fun x y => decide (x ≠ y))) := rfl
theorem k149_76 : lkp pt149 76 = iP 77 (fAld 0) := rfl
theorem k149_77 : lkp pt149 77 = iP 78 (fIld 1) := rfl
theorem k149_78 : lkp pt149 78 = iP 79 (fIld 2) := rfl
theorem k149_79 : lkp pt149 79 = iCK 82 12 135 5 3 0 := rfl
theorem k149_82 : lkp pt149 82 = iP 83 (fIld 2) := rfl
theorem k149_83 : lkp pt149 83 = iP 84 (fAld 0) := rfl
theorem k149_84 : lkp pt149 84 = iP 85 (fIld 3) := rfl
theorem k149_85 : lkp pt149 85 = iCK 88 12 146 3 2 1 := rfl
theorem k149_88 : lkp pt149 88 = iP 89 (f2I (fun x y => x + y)) := rfl
theorem k149_89 : lkp pt149 89 = iP 90 (fAld 0) := rfl
theorem k149_90 : lkp pt149 90 = iRI 93 (gtI 66) := rfl
theorem k149_93 : lkp pt149 93 = iP 94 (f2I (fun x y => x + y)) := rfl
theorem k149_94 : lkp pt149 94 = iP 95 (fK (.inl 1)) := rfl
theorem k149_95 : lkp pt149 95 = iP 96 (f2I (fun x y => x + y)) := rfl
theorem k149_96 : lkp pt149 96 = iRet rI := rfl
theorem k149_97 : lkp pt149 97 = iP 99 (fIld 4) := rfl
theorem k149_99 : lkp pt149 99 = iP 100 (fK (.inl 5)) := rfl
theorem k149_100 : lkp pt149 100 = iB 103 109 (b2 (fun x y => decide (x ≠ y))) := rfl
theorem k149_103 : lkp pt149 103 = iP 104 (fK (.inl 2)) := rfl
theorem k149_104 : lkp pt149 104 = iP 105 (fIld 2) := rfl
theorem k149_105 : lkp pt149 105 = iP 106 (f2I (fun x y => x * y)) := rfl
theorem k149_106 : lkp pt149 106 = iP 110 fGo := rfl
theorem k149_109 : lkp pt149 109 = iP 110 (fIld 2) := rfl
theorem k149_110 : lkp pt149 110 = iRet rI := rfl
theorem b149_0 {G : AG} (hG : FIX G) (x0 : Nat) (x1 : Int32) (x2 : Int32) (H : Hp) : G 149 0 [some (.inr (.inr x0)), some (.inl x1), some (.inl x2), none, none] [] H = ((hgR H x0 52).bind fun r1 => (hAI H r1 (((24 * x1) + x2))).bind fun i2 => bif decide ((i2 : Int32) ≠ (4 : Int32)) then bif decide ((i2 : Int32) ≠ (5 : Int32)) then G 149 46 [some (.inr (.inr x0)), some (.inl x1), some (.inl x2), some (.inl ((24 * x1) + x2)), some (.inl i2)] [] H else bif Nat.beq (H.1 x0).1 12 then (G 147 0 [some (.inr (.inr x0)), some (.inl 24)] [] H).bind fun u3 => (asV u3.1).bind fun _ => G 149 46 [some (.inr (.inr x0)), some (.inl x1), some (.inl x2), some (.inl ((24 * x1) + x2)), some (.inl i2)] [] u3.2 else none else bif Nat.beq (H.1 x0).1 12 then (G 147 0 [some (.inr (.inr x0)), some (.inl 23)] [] H).bind fun u4 => (asV u4.1).bind fun _ => (hgR u4.2 x0 54).bind fun r5 => (hAI u4.2 r5 (((24 * x1) + x2))).bind fun i6 => some (some (.inl i6), u4.2) else none) := by
  refine Eq.trans (e1 hG PT_149 k149_0 _ _ _) ?_
  show G 149 2 [some (.inr (.inr x0)), some (.inl x1), some (.inl x2), none, none] [.inl 24] H = _
  refine Eq.trans (e1 hG PT_149 k149_2 _ _ _) ?_
  show G 149 3 [some (.inr (.inr x0)), some (.inl x1), some (.inl x2), none, none] [.inl x1, .inl 24] H = _
  refine Eq.trans (e1 hG PT_149 k149_3 _ _ _) ?_
  show G 149 4 [some (.inr (.inr x0)), some (.inl x1), some (.inl x2), none, none] [.inl (24 * x1)] H = _
  refine Eq.trans (e1 hG PT_149 k149_4 _ _ _) ?_
  show G 149 5 [some (.inr (.inr x0)), some (.inl x1), some (.inl x2), none, none] [.inl x2, .inl (24 * x1)] H = _
  refine Eq.trans (e1 hG PT_149 k149_5 _ _ _) ?_
  show G 149 6 [some (.inr (.inr x0)), some (.inl x1), some (.inl x2), none, none] [.inl ((24 * x1) + x2)] H = _
  refine Eq.trans (e1 hG PT_149 k149_6 _ _ _) ?_
  show G 149 7 [some (.inr (.inr x0)), some (.inl x1), some (.inl x2), some (.inl ((24 * x1) + x2)), none] [] H = _
  refine Eq.trans (e1 hG PT_149 k149_7 _ _ _) ?_
  show G 149 8 [some (.inr (.inr x0)), some (.inl x1), some (.inl x2), some (.inl ((24 * x1) + x2)), none] [.inr (.inr x0)] H = _
  refine Eq.trans (e1 hG PT_149 k149_8 _ _ _) ?_
  refine bdc fun r1 => ?_
  show G 149 11 [some (.inr (.inr x0)), some (.inl x1), some (.inl x2), some (.inl ((24 * x1) + x2)), none] [.inr (.inr r1)] H = _
  refine Eq.trans (e1 hG PT_149 k149_11 _ _ _) ?_
  show G 149 12 [some (.inr (.inr x0)), some (.inl x1), some (.inl x2), some (.inl ((24 * x1) + x2)), none] [.inl ((24 * x1) + x2), .inr (.inr r1)] H = _
  refine Eq.trans (e1 hG PT_149 k149_12 _ _ _) ?_
  refine bdc fun i2 => ?_
  show G 149 13 [some (.inr (.inr x0)), some (.inl x1), some (.inl x2), some (.inl ((24 * x1) + x2)), none] [.inl i2] H = _
  refine Eq.trans (e1 hG PT_149 k149_13 _ _ _) ?_
  show G 149 15 [some (.inr (.inr x0)), some (.inl x1), some (.inl x2), some (.inl ((24 * x1) + x2)), some (.inl i2)] [] H = _
  refine Eq.trans (e1 hG PT_149 k149_15 _ _ _) ?_
  show G 149 17 [some (.inr (.inr x0)), some (.inl x1), some (.inl x2), some (.inl ((24 * x1) + x2)), some (.inl i2)] [.inl i2] H = _
  refine Eq.trans (e1 hG PT_149 k149_17 _ _ _) ?_
  show G 149 18 [some (.inr (.inr x0)), some (.inl x1), some (.inl x2), some (.inl ((24 * x1) + x2)), some (.inl i2)] [.inl 4, .inl i2] H = _
  refine Eq.trans (e1 hG PT_149 k149_18 _ _ _) ?_
  refine bfc ?_ ?_
  · show G 149 34 [some (.inr (.inr x0)), some (.inl x1), some (.inl x2), some (.inl ((24 * x1) + x2)), some (.inl i2)] [] H = _
    refine Eq.trans (e1 hG PT_149 k149_34 _ _ _) ?_
    show G 149 36 [some (.inr (.inr x0)), some (.inl x1), some (.inl x2), some (.inl ((24 * x1) + x2)), some (.inl i2)] [.inl i2] H = _
    refine Eq.trans (e1 hG PT_149 k149_36 _ _ _) ?_
    show G 149 37 [some (.inr (.inr x0)), some (.inl x1), some (.inl x2), some (.inl ((24 * x1) + x2)), some (.inl i2)] [.inl 5, .inl i2] H = _
    refine Eq.trans (e1 hG PT_149 k149_37 _ _ _) ?_
    refine bfc ?_ ?_
    · rfl
    · show G 149 40 [some (.inr (.inr x0)), some (.inl x1), some (.inl x2), some (.inl ((24 * x1) + x2)), some (.inl i2)] [] H = _
      refine Eq.trans (e1 hG PT_149 k149_40 _ _ _) ?_
      show G 149 41 [some (.inr (.inr x0)), some (.inl x1), some (.inl x2), some (.inl ((24 * x1) + x2)), some (.inl i2)] [.inr (.inr x0)] H = _
      refine Eq.trans (e1 hG PT_149 k149_41 _ _ _) ?_
      show G 149 43 [some (.inr (.inr x0)), some (.inl x1), some (.inl x2), some (.inl ((24 * x1) + x2)), some (.inl i2)] [.inl 24, .inr (.inr x0)] H = _
      refine Eq.trans (e1 hG PT_149 k149_43 _ _ _) ?_
      refine bfc ?_ ?_
      · refine bdc fun u3 => ?_
        refine bdc fun _ => ?_
        rfl
      · rfl
  · show G 149 21 [some (.inr (.inr x0)), some (.inl x1), some (.inl x2), some (.inl ((24 * x1) + x2)), some (.inl i2)] [] H = _
    refine Eq.trans (e1 hG PT_149 k149_21 _ _ _) ?_
    show G 149 22 [some (.inr (.inr x0)), some (.inl x1), some (.inl x2), some (.inl ((24 * x1) + x2)), some (.inl i2)] [.inr (.inr x0)] H = _
    refine Eq.trans (e1 hG PT_149 k149_22 _ _ _) ?_
    show G 149 24 [some (.inr (.inr x0)), some (.inl x1), some (.inl x2), some (.inl ((24 * x1) + x2)), some (.inl i2)] [.inl 23, .inr (.inr x0)] H = _
    refine Eq.trans (e1 hG PT_149 k149_24 _ _ _) ?_
    refine bfc ?_ ?_
    · refine bdc fun u4 => ?_
      refine bdc fun _ => ?_
      show G 149 27 [some (.inr (.inr x0)), some (.inl x1), some (.inl x2), some (.inl ((24 * x1) + x2)), some (.inl i2)] [] u4.2 = _
      refine Eq.trans (e1 hG PT_149 k149_27 _ _ _) ?_
      show G 149 28 [some (.inr (.inr x0)), some (.inl x1), some (.inl x2), some (.inl ((24 * x1) + x2)), some (.inl i2)] [.inr (.inr x0)] u4.2 = _
      refine Eq.trans (e1 hG PT_149 k149_28 _ _ _) ?_
      refine bdc fun r5 => ?_
      show G 149 31 [some (.inr (.inr x0)), some (.inl x1), some (.inl x2), some (.inl ((24 * x1) + x2)), some (.inl i2)] [.inr (.inr r5)] u4.2 = _
      refine Eq.trans (e1 hG PT_149 k149_31 _ _ _) ?_
      show G 149 32 [some (.inr (.inr x0)), some (.inl x1), some (.inl x2), some (.inl ((24 * x1) + x2)), some (.inl i2)] [.inl ((24 * x1) + x2), .inr (.inr r5)] u4.2 = _
      refine Eq.trans (e1 hG PT_149 k149_32 _ _ _) ?_
      refine bdc fun i6 => ?_
      show G 149 33 [some (.inr (.inr x0)), some (.inl x1), some (.inl x2), some (.inl ((24 * x1) + x2)), some (.inl i2)] [.inl i6] u4.2 = _
      exact e1 hG PT_149 k149_33 _ _ _
    · rfl
theorem b149_46 {G : AG} (hG : FIX G) (x0 : Nat) (x1 : Int32) (x2 : Int32) (x3 : Int32) (x4 : Int32) (H : Hp) : G 149 46 [some (.inr (.inr x0)), some (.inl x1), some (.inl x2), some (.inl x3), some (.inl x4)] [] H = (bif decide ((x4 : Int32) ≠ (3 : Int32)) then G 149 64 [some (.inr (.inr x0)), some (.inl x1), some (.inl x2), some (.inl x3), some (.inl x4)] [] H else bif Nat.beq (H.1 x0).1 12 then (G 147 0 [some (.inr (.inr x0)), some (.inl 22)] [] H).bind fun u1 => (asV u1.1).bind fun _ => bif Nat.beq (u1.2.1 x0).1 12 then (G 147 0 [some (.inr (.inr x0)), some (.inl 21)] [] u1.2).bind fun u2 => (asV u2.1).bind fun _ => G 149 64 [some (.inr (.inr x0)), some (.inl x1), some (.inl x2), some (.inl x3), some (.inl x4)] [] u2.2 else none else none) := by
  refine Eq.trans (e1 hG PT_149 k149_46 _ _ _) ?_
  show G 149 48 [some (.inr (.inr x0)), some (.inl x1), some (.inl x2), some (.inl x3), some (.inl x4)] [.inl x4] H = _
  refine Eq.trans (e1 hG PT_149 k149_48 _ _ _) ?_
  show G 149 49 [some (.inr (.inr x0)), some (.inl x1), some (.inl x2), some (.inl x3), some (.inl x4)] [.inl 3, .inl x4] H = _
  refine Eq.trans (e1 hG PT_149 k149_49 _ _ _) ?_
  refine bfc ?_ ?_
  · rfl
  · show G 149 52 [some (.inr (.inr x0)), some (.inl x1), some (.inl x2), some (.inl x3), some (.inl x4)] [] H = _
    refine Eq.trans (e1 hG PT_149 k149_52 _ _ _) ?_
    show G 149 53 [some (.inr (.inr x0)), some (.inl x1), some (.inl x2), some (.inl x3), some (.inl x4)] [.inr (.inr x0)] H = _
    refine Eq.trans (e1 hG PT_149 k149_53 _ _ _) ?_
    show G 149 55 [some (.inr (.inr x0)), some (.inl x1), some (.inl x2), some (.inl x3), some (.inl x4)] [.inl 22, .inr (.inr x0)] H = _
    refine Eq.trans (e1 hG PT_149 k149_55 _ _ _) ?_
    refine bfc ?_ ?_
    · refine bdc fun u1 => ?_
      refine bdc fun _ => ?_
      show G 149 58 [some (.inr (.inr x0)), some (.inl x1), some (.inl x2), some (.inl x3), some (.inl x4)] [] u1.2 = _
      refine Eq.trans (e1 hG PT_149 k149_58 _ _ _) ?_
      show G 149 59 [some (.inr (.inr x0)), some (.inl x1), some (.inl x2), some (.inl x3), some (.inl x4)] [.inr (.inr x0)] u1.2 = _
      refine Eq.trans (e1 hG PT_149 k149_59 _ _ _) ?_
      show G 149 61 [some (.inr (.inr x0)), some (.inl x1), some (.inl x2), some (.inl x3), some (.inl x4)] [.inl 21, .inr (.inr x0)] u1.2 = _
      refine Eq.trans (e1 hG PT_149 k149_61 _ _ _) ?_
      refine bfc ?_ ?_
      · refine bdc fun u2 => ?_
        refine bdc fun _ => ?_
        rfl
      · rfl
    · rfl
theorem b149_64 {G : AG} (hG : FIX G) (x0 : Nat) (x1 : Int32) (x2 : Int32) (x3 : Int32) (x4 : Int32) (H : Hp) : G 149 64 [some (.inr (.inr x0)), some (.inl x1), some (.inl x2), some (.inl x3), some (.inl x4)] [] H = (bif Nat.beq (H.1 x0).1 12 then (G 147 0 [some (.inr (.inr x0)), some (.inl 20)] [] H).bind fun u1 => (asV u1.1).bind fun _ => bif decide ((x4 : Int32) ≠ (3 : Int32)) then bif decide ((x4 : Int32) ≠ (5 : Int32)) then G 149 110 [some (.inr (.inr x0)), some (.inl x1), some (.inl x2), some (.inl x3), some (.inl x4)] [.inl x2] u1.2 else G 149 110 [some (.inr (.inr x0)), some (.inl x1), some (.inl x2), some (.inl x3), some (.inl x4)] [.inl (2 * x2)] u1.2 else bif Nat.beq (u1.2.1 x0).1 12 then (G 135 0 [some (.inr (.inr x0)), some (.inl x1), some (.inl x2), none, none] [] u1.2).bind fun u2 => (asV u2.1).bind fun _ => bif Nat.beq (u2.2.1 x0).1 12 then (G 146 0 [some (.inr (.inr x0)), some (.inl x3), none] [] u2.2).bind fun u3 => (asI u3.1).bind fun i4 => (hgI u3.2 x0 66).bind fun i5 => some (some (.inl ((((x2 + i4) + i5) + 1))), u3.2) else none else none else none) := by
  refine Eq.trans (e1 hG PT_149 k149_64 _ _ _) ?_
  show G 149 65 [some (.inr (.inr x0)), some (.inl x1), some (.inl x2), some (.inl x3), some (.inl x4)] [.inr (.inr x0)] H = _
  refine Eq.trans (e1 hG PT_149 k149_65 _ _ _) ?_
  show G 149 67 [some (.inr (.inr x0)), some (.inl x1), some (.inl x2), some (.inl x3), some (.inl x4)] [.inl 20, .inr (.inr x0)] H = _
  refine Eq.trans (e1 hG PT_149 k149_67 _ _ _) ?_
  refine bfc ?_ ?_
  · refine bdc fun u1 => ?_
    refine bdc fun _ => ?_
    show G 149 70 [some (.inr (.inr x0)), some (.inl x1), some (.inl x2), some (.inl x3), some (.inl x4)] [] u1.2 = _
    refine Eq.trans (e1 hG PT_149 k149_70 _ _ _) ?_
    show G 149 72 [some (.inr (.inr x0)), some (.inl x1), some (.inl x2), some (.inl x3), some (.inl x4)] [.inl x4] u1.2 = _
    refine Eq.trans (e1 hG PT_149 k149_72 _ _ _) ?_
    show G 149 73 [some (.inr (.inr x0)), some (.inl x1), some (.inl x2), some (.inl x3), some (.inl x4)] [.inl 3, .inl x4] u1.2 = _
    refine Eq.trans (e1 hG PT_149 k149_73 _ _ _) ?_
    refine bfc ?_ ?_
    · show G 149 97 [some (.inr (.inr x0)), some (.inl x1), some (.inl x2), some (.inl x3), some (.inl x4)] [] u1.2 = _
      refine Eq.trans (e1 hG PT_149 k149_97 _ _ _) ?_
      show G 149 99 [some (.inr (.inr x0)), some (.inl x1), some (.inl x2), some (.inl x3), some (.inl x4)] [.inl x4] u1.2 = _
      refine Eq.trans (e1 hG PT_149 k149_99 _ _ _) ?_
      show G 149 100 [some (.inr (.inr x0)), some (.inl x1), some (.inl x2), some (.inl x3), some (.inl x4)] [.inl 5, .inl x4] u1.2 = _
      refine Eq.trans (e1 hG PT_149 k149_100 _ _ _) ?_
      refine bfc ?_ ?_
      · show G 149 109 [some (.inr (.inr x0)), some (.inl x1), some (.inl x2), some (.inl x3), some (.inl x4)] [] u1.2 = _
        refine Eq.trans (e1 hG PT_149 k149_109 _ _ _) ?_
        rfl
      · show G 149 103 [some (.inr (.inr x0)), some (.inl x1), some (.inl x2), some (.inl x3), some (.inl x4)] [] u1.2 = _
        refine Eq.trans (e1 hG PT_149 k149_103 _ _ _) ?_
        show G 149 104 [some (.inr (.inr x0)), some (.inl x1), some (.inl x2), some (.inl x3), some (.inl x4)] [.inl 2] u1.2 = _
        refine Eq.trans (e1 hG PT_149 k149_104 _ _ _) ?_
        show G 149 105 [some (.inr (.inr x0)), some (.inl x1), some (.inl x2), some (.inl x3), some (.inl x4)] [.inl x2, .inl 2] u1.2 = _
        refine Eq.trans (e1 hG PT_149 k149_105 _ _ _) ?_
        show G 149 106 [some (.inr (.inr x0)), some (.inl x1), some (.inl x2), some (.inl x3), some (.inl x4)] [.inl (2 * x2)] u1.2 = _
        refine Eq.trans (e1 hG PT_149 k149_106 _ _ _) ?_
        rfl
    · show G 149 76 [some (.inr (.inr x0)), some (.inl x1), some (.inl x2), some (.inl x3), some (.inl x4)] [] u1.2 = _
      refine Eq.trans (e1 hG PT_149 k149_76 _ _ _) ?_
      show G 149 77 [some (.inr (.inr x0)), some (.inl x1), some (.inl x2), some (.inl x3), some (.inl x4)] [.inr (.inr x0)] u1.2 = _
      refine Eq.trans (e1 hG PT_149 k149_77 _ _ _) ?_
      show G 149 78 [some (.inr (.inr x0)), some (.inl x1), some (.inl x2), some (.inl x3), some (.inl x4)] [.inl x1, .inr (.inr x0)] u1.2 = _
      refine Eq.trans (e1 hG PT_149 k149_78 _ _ _) ?_
      show G 149 79 [some (.inr (.inr x0)), some (.inl x1), some (.inl x2), some (.inl x3), some (.inl x4)] [.inl x2, .inl x1, .inr (.inr x0)] u1.2 = _
      refine Eq.trans (e1 hG PT_149 k149_79 _ _ _) ?_
      refine bfc ?_ ?_
      · refine bdc fun u2 => ?_
        refine bdc fun _ => ?_
        show G 149 82 [some (.inr (.inr x0)), some (.inl x1), some (.inl x2), some (.inl x3), some (.inl x4)] [] u2.2 = _
        refine Eq.trans (e1 hG PT_149 k149_82 _ _ _) ?_
        show G 149 83 [some (.inr (.inr x0)), some (.inl x1), some (.inl x2), some (.inl x3), some (.inl x4)] [.inl x2] u2.2 = _
        refine Eq.trans (e1 hG PT_149 k149_83 _ _ _) ?_
        show G 149 84 [some (.inr (.inr x0)), some (.inl x1), some (.inl x2), some (.inl x3), some (.inl x4)] [.inr (.inr x0), .inl x2] u2.2 = _
        refine Eq.trans (e1 hG PT_149 k149_84 _ _ _) ?_
        show G 149 85 [some (.inr (.inr x0)), some (.inl x1), some (.inl x2), some (.inl x3), some (.inl x4)] [.inl x3, .inr (.inr x0), .inl x2] u2.2 = _
        refine Eq.trans (e1 hG PT_149 k149_85 _ _ _) ?_
        refine bfc ?_ ?_
        · refine bdc fun u3 => ?_
          refine bdc fun i4 => ?_
          show G 149 88 [some (.inr (.inr x0)), some (.inl x1), some (.inl x2), some (.inl x3), some (.inl x4)] [.inl i4, .inl x2] u3.2 = _
          refine Eq.trans (e1 hG PT_149 k149_88 _ _ _) ?_
          show G 149 89 [some (.inr (.inr x0)), some (.inl x1), some (.inl x2), some (.inl x3), some (.inl x4)] [.inl (x2 + i4)] u3.2 = _
          refine Eq.trans (e1 hG PT_149 k149_89 _ _ _) ?_
          show G 149 90 [some (.inr (.inr x0)), some (.inl x1), some (.inl x2), some (.inl x3), some (.inl x4)] [.inr (.inr x0), .inl (x2 + i4)] u3.2 = _
          refine Eq.trans (e1 hG PT_149 k149_90 _ _ _) ?_
          refine bdc fun i5 => ?_
          show G 149 93 [some (.inr (.inr x0)), some (.inl x1), some (.inl x2), some (.inl x3), some (.inl x4)] [.inl i5, .inl (x2 + i4)] u3.2 = _
          refine Eq.trans (e1 hG PT_149 k149_93 _ _ _) ?_
          show G 149 94 [some (.inr (.inr x0)), some (.inl x1), some (.inl x2), some (.inl x3), some (.inl x4)] [.inl ((x2 + i4) + i5)] u3.2 = _
          refine Eq.trans (e1 hG PT_149 k149_94 _ _ _) ?_
          show G 149 95 [some (.inr (.inr x0)), some (.inl x1), some (.inl x2), some (.inl x3), some (.inl x4)] [.inl 1, .inl ((x2 + i4) + i5)] u3.2 = _
          refine Eq.trans (e1 hG PT_149 k149_95 _ _ _) ?_
          show G 149 96 [some (.inr (.inr x0)), some (.inl x1), some (.inl x2), some (.inl x3), some (.inl x4)] [.inl (((x2 + i4) + i5) + 1)] u3.2 = _
          exact e1 hG PT_149 k149_96 _ _ _
        · rfl
      · rfl
  · rfl
theorem b149_110 {G : AG} (hG : FIX G) (x0 : Nat) (x1 : Int32) (x2 : Int32) (x3 : Int32) (x4 : Int32) (s0 : Int32) (H : Hp) : G 149 110 [some (.inr (.inr x0)), some (.inl x1), some (.inl x2), some (.inl x3), some (.inl x4)] [.inl s0] H = (some (some (.inl s0), H)) := by
  exact e1 hG PT_149 k149_110 _ _ _
-- StepsAheadModel.trace(I)I
theorem PT_150 : PT 150 = pt150 := rfl
theorem k150_0 : lkp pt150 0 = iP 1 (fIld 1) := rfl
theorem k150_1 : lkp pt150 1 = iP 2 fI2l := rfl
theorem k150_2 : lkp pt150 2 = iP 3 (fK (.inr (.inl 0))) := rfl
theorem k150_3 : lkp pt150 3 = iP 4 (fAld 0) := rfl
theorem k150_4 : lkp pt150 4 = iRI 7 (gtI 59) := rfl
theorem k150_7 : lkp pt150 7 = iP 8 (fK (.inl 1)) := rfl
theorem k150_8 : lkp pt150 8 = iP 9 (f2I (fun x y => x - y)) := rfl
theorem k150_9 : lkp pt150 9 = iP 10 fI2l := rfl
theorem k150_10 : lkp pt150 10 = iC 13 130 6 3 1 := rfl
theorem k150_13 : lkp pt150 13 = iB 16 25 (b1 (fun x => decide (x = 0))) := rfl
theorem k150_16 : lkp pt150 16 = iP 17 (fAld 0) := rfl
theorem k150_17 : lkp pt150 17 = iRR 20 (gtR 58) := rfl
theorem k150_20 : lkp pt150 20 = iP 21 (fIld 1) := rfl
theorem k150_21 : lkp pt150 21 = iRI 22 qAI := rfl
theorem k150_22 : lkp pt150 22 = iP 27 fGo := rfl
theorem k150_25 : lkp pt150 25 = iP 27 (fK (.inl (-1000000))) := rfl
theorem k150_27 : lkp pt150 27 = iRet rI := rfl
theorem b150_0 {G : AG} (hG : FIX G) (x0 : Nat) (x1 : Int32) (H : Hp) : G 150 0 [some (.inr (.inr x0)), some (.inl x1)] [] H = ((hgI H x0 59).bind fun i1 => (G 130 0 [some (.inr (.inl x1.toInt64)), none, some (.inr (.inl 0)), none, some (.inr (.inl (((i1 - 1)).toInt64))), none] [] H).bind fun u2 => (asI u2.1).bind fun i3 => bif decide ((i3 : Int32) = 0) then G 150 27 [some (.inr (.inr x0)), some (.inl x1)] [.inl (-1000000)] u2.2 else (hgR u2.2 x0 58).bind fun r4 => (hAI u2.2 r4 x1).bind fun i5 => G 150 27 [some (.inr (.inr x0)), some (.inl x1)] [.inl i5] u2.2) := by
  refine Eq.trans (e1 hG PT_150 k150_0 _ _ _) ?_
  show G 150 1 [some (.inr (.inr x0)), some (.inl x1)] [.inl x1] H = _
  refine Eq.trans (e1 hG PT_150 k150_1 _ _ _) ?_
  show G 150 2 [some (.inr (.inr x0)), some (.inl x1)] [.inr (.inl x1.toInt64)] H = _
  refine Eq.trans (e1 hG PT_150 k150_2 _ _ _) ?_
  show G 150 3 [some (.inr (.inr x0)), some (.inl x1)] [.inr (.inl 0), .inr (.inl x1.toInt64)] H = _
  refine Eq.trans (e1 hG PT_150 k150_3 _ _ _) ?_
  show G 150 4 [some (.inr (.inr x0)), some (.inl x1)] [.inr (.inr x0), .inr (.inl 0), .inr (.inl x1.toInt64)] H = _
  refine Eq.trans (e1 hG PT_150 k150_4 _ _ _) ?_
  refine bdc fun i1 => ?_
  show G 150 7 [some (.inr (.inr x0)), some (.inl x1)] [.inl i1, .inr (.inl 0), .inr (.inl x1.toInt64)] H = _
  refine Eq.trans (e1 hG PT_150 k150_7 _ _ _) ?_
  show G 150 8 [some (.inr (.inr x0)), some (.inl x1)] [.inl 1, .inl i1, .inr (.inl 0), .inr (.inl x1.toInt64)] H = _
  refine Eq.trans (e1 hG PT_150 k150_8 _ _ _) ?_
  show G 150 9 [some (.inr (.inr x0)), some (.inl x1)] [.inl (i1 - 1), .inr (.inl 0), .inr (.inl x1.toInt64)] H = _
  refine Eq.trans (e1 hG PT_150 k150_9 _ _ _) ?_
  show G 150 10 [some (.inr (.inr x0)), some (.inl x1)] [.inr (.inl ((i1 - 1)).toInt64), .inr (.inl 0), .inr (.inl x1.toInt64)] H = _
  refine Eq.trans (e1 hG PT_150 k150_10 _ _ _) ?_
  refine bdc fun u2 => ?_
  refine bdc fun i3 => ?_
  show G 150 13 [some (.inr (.inr x0)), some (.inl x1)] [.inl i3] u2.2 = _
  refine Eq.trans (e1 hG PT_150 k150_13 _ _ _) ?_
  refine bfc ?_ ?_
  · show G 150 25 [some (.inr (.inr x0)), some (.inl x1)] [] u2.2 = _
    refine Eq.trans (e1 hG PT_150 k150_25 _ _ _) ?_
    rfl
  · show G 150 16 [some (.inr (.inr x0)), some (.inl x1)] [] u2.2 = _
    refine Eq.trans (e1 hG PT_150 k150_16 _ _ _) ?_
    show G 150 17 [some (.inr (.inr x0)), some (.inl x1)] [.inr (.inr x0)] u2.2 = _
    refine Eq.trans (e1 hG PT_150 k150_17 _ _ _) ?_
    refine bdc fun r4 => ?_
    show G 150 20 [some (.inr (.inr x0)), some (.inl x1)] [.inr (.inr r4)] u2.2 = _
    refine Eq.trans (e1 hG PT_150 k150_20 _ _ _) ?_
    show G 150 21 [some (.inr (.inr x0)), some (.inl x1)] [.inl x1, .inr (.inr r4)] u2.2 = _
    refine Eq.trans (e1 hG PT_150 k150_21 _ _ _) ?_
    refine bdc fun i5 => ?_
    show G 150 22 [some (.inr (.inr x0)), some (.inl x1)] [.inl i5] u2.2 = _
    refine Eq.trans (e1 hG PT_150 k150_22 _ _ _) ?_
    rfl
theorem b150_27 {G : AG} (hG : FIX G) (x0 : Nat) (x1 : Int32) (s0 : Int32) (H : Hp) : G 150 27 [some (.inr (.inr x0)), some (.inl x1)] [.inl s0] H = (some (some (.inl s0), H)) := by
  exact e1 hG PT_150 k150_27 _ _ _
